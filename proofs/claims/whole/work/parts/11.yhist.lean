theorem qc_Zw {F : qc_F} {ret : Option FieldType} {r : Option Value} {I : Nat → Nat → Int32} {J : Nat → Nat → Int64} {w w1 : Nat → Nat} {n mc ms : Nat} (e : w = w1) (hz : qc_Z F ret r (I, J, (rX w1, kX, nX, n)) mc ms) : qc_Z F ret r (I, J, (rX w, kX, nX, n)) mc ms := by
  subst e
  exact hz
/-- the images move up by one; the oldest goes last -/
def P_X0_dropOldest_9 : Nat → (Nat → Nat) → Int32 → Option (Nat → Nat)
  | 0, _, _ => none
  | f + 1, w, a2 =>
  if (20 : Int32) ≤ a2 then
  some w
  else
  if qc_in (a2 - (1 : Int32)) 20 then
  if qc_in a2 20 then
  if qc_ti (w a2.toNatClampNeg) then
  qc_let (qc_u w (a2 - (1 : Int32)).toNatClampNeg (w a2.toNatClampNeg)) fun w1 =>
  qc_let (a2 + (1 : Int32)) fun x1 =>
  P_X0_dropOldest_9 f w1 x1
  else none
  else none
  else none
def P_X0_dropOldest (I : Nat → Nat → Int32) (w : Nat → Nat) : Option ((Nat → Nat → Int32) × (Nat → Nat)) :=
  if qc_ti (w 0) then
  (P_X0_dropOldest_9 qc_fu w (1 : Int32)).bind fun w1 =>
  qc_let (qc_u w1 19 (w 0)) fun w2 =>
  qc_let (qc_u2 I 35 1 (19 : Int32)) fun I1 =>
  some (I1, w2)
  else none
set_option maxRecDepth 20000 in
theorem c_X0_dropOldest {I : Nat → Nat → Int32} {J : Nat → Nat → Int64} {w : Nat → Nat} {n : Nat} (hn : 121 ≤ n) (hn1 : n ≤ 200) {q0 : (Nat → Nat → Int32) × (Nat → Nat)} (hP : P_X0_dropOldest I w = some q0) : ∀ l, qc_M l yX0_dropOldest cX0_dropOldest 3 none 0 0 0 0 [.ref 35] (I, J, (rX w, kX, nX, n)) none (q0.1, J, (rX q0.2, kX, nX, n)) := by
  intro l
  refine qc_ent2 (by decide) (Nat.le_of_ble_eq_true rfl) ?_
  intro F hn0 cx hz
  have cx : qc_X F cX0_dropOldest RX0 "dropOldest" 0 0 0 0 := cx
  unfold P_X0_dropOldest at hP
  obtain ⟨c0, hP⟩ := qc_ck hP
  obtain ⟨wl, hL, hP⟩ := Option.bind_eq_some_iff.mp hP
  obtain ⟨w2, ew2, hP⟩ := qc_letE hP
  obtain ⟨I1, eI1, hP⟩ := qc_letE hP
  generalize hv0 : w 0 = v0 at c0 ew2
  have L9 : ∀ (f : Nat) (w : Nat → Nat) (a2 : Int32), P_X0_dropOldest_9 f w a2 = some wl → qc_J F 0 0 9 [some (.ref 35), some (.ref v0), some (.int a2)] [] (I, J, (rX w, kX, nX, n)) := by
    intro f
    induction f with
    | zero => intro w a2 hP; cases hP
    | succ f ih =>
      intro w a2 hL
      rw [P_X0_dropOldest_9] at hL
      refine qj_iload_n cx dX0_dropOldest_9 rfl rfl ?_
      refine qj_bipush (v := (20 : Int32)) cx dX0_dropOldest_10 (by decide) ?_
      refine qj_icmp_ge (tgt := 35) cx dX0_dropOldest_12 (by decide) (fun c => ?_) (fun c => ?_)
      · have hL := qc_ifT hL c
        cases hL
        refine qj_aload_n cx dX0_dropOldest_35 rfl rfl ?_
        refine qw_getR (j := 0) (t1 := 36) cx dX0_dropOldest_36 qc_cl0 rfl (Nat.lt_of_lt_of_le (by decide) hn) rfl ww_320 rfl ?_
        refine qj_bipush (v := (19 : Int32)) cx dX0_dropOldest_39 (by decide) ?_
        refine qj_aload_n cx dX0_dropOldest_41 rfl rfl ?_
        refine qw_aast (w1 := w2) cx dX0_dropOldest_42 hn (by decide) (qc_imt hn c0) ew2 ?_
        refine qj_aload_n cx dX0_dropOldest_43 rfl rfl ?_
        refine qj_bipush (v := (19 : Int32)) cx dX0_dropOldest_44 (by decide) ?_
        refine qw_putI (j := 1) cx dX0_dropOldest_46 qc_cl0 rfl (Nat.lt_of_lt_of_le (by decide) hn) rfl ww_321 rfl rfl rfl eI1 ?_
        have hz := qc_Zw (congrArg (fun q => q.2) (Option.some.inj hP)) hz
        exact qw_vret cx hz dX0_dropOldest_49 (Nat.zero_le _) (Nat.zero_le _) (congrArg (fun q => q.1) (Option.some.inj hP)) rfl
      · have hL := qc_ifF hL c
        obtain ⟨c1, hL⟩ := qc_ck hL
        obtain ⟨c2, hL⟩ := qc_ck hL
        obtain ⟨c3, hL⟩ := qc_ck hL
        obtain ⟨w1, ew1, hL⟩ := qc_letE hL
        obtain ⟨x1, ex1, hL⟩ := qc_letE hL
        refine qj_aload_n cx dX0_dropOldest_15 rfl rfl ?_
        refine qw_getR (j := 0) (t1 := 36) cx dX0_dropOldest_16 qc_cl0 rfl (Nat.lt_of_lt_of_le (by decide) hn) rfl ww_320 rfl ?_
        refine qj_iload_n cx dX0_dropOldest_19 rfl rfl ?_
        refine qj_iconst (v := (1 : Int32)) cx dX0_dropOldest_20 (by decide) ?_
        refine qj_isub cx dX0_dropOldest_21 ?_
        refine qj_aload_n cx dX0_dropOldest_22 rfl rfl ?_
        refine qw_getR (j := 0) (t1 := 36) cx dX0_dropOldest_23 qc_cl0 rfl (Nat.lt_of_lt_of_le (by decide) hn) rfl ww_320 rfl ?_
        refine qj_iload_n cx dX0_dropOldest_26 rfl rfl ?_
        refine qw_aald (n1 := 20) (t1 := w a2.toNatClampNeg) cx dX0_dropOldest_27 rfl (Or.inl ⟨rfl, rfl⟩) (Nat.lt_of_lt_of_le (by decide) hn) rfl c2 rfl ?_
        refine qw_aast (w1 := w1) cx dX0_dropOldest_28 hn c1 (qc_imt hn c3) ew1 ?_
        refine qj_iinc (v := x1) (ls1 := [some (.ref 35), some (.ref v0), some (.int x1)]) cx dX0_dropOldest_29 rfl (by rw [ex1]; rfl) rfl rfl ?_
        refine qj_goto (tgt := 9) cx dX0_dropOldest_32 (by decide) ?_
        exact ih w1 x1 hL
  show qc_J F 0 0 0 [some (.ref 35), none, none] [] (I, J, (rX w, kX, nX, n))
  refine qj_aload_n cx dX0_dropOldest_0 rfl rfl ?_
  refine qw_getR (j := 0) (t1 := 36) cx dX0_dropOldest_1 qc_cl0 rfl (Nat.lt_of_lt_of_le (by decide) hn) rfl ww_320 rfl ?_
  refine qj_iconst (v := (0 : Int32)) cx dX0_dropOldest_4 (by decide) ?_
  refine qw_aald (n1 := 20) (t1 := v0) cx dX0_dropOldest_5 rfl (Or.inl ⟨rfl, rfl⟩) (Nat.lt_of_lt_of_le (by decide) hn) rfl (by decide) (congrArg some hv0) ?_
  refine qj_astore_n (ls1 := [some (.ref 35), some (.ref v0), none]) cx dX0_dropOldest_6 rfl rfl rfl rfl ?_
  refine qj_iconst (v := (1 : Int32)) cx dX0_dropOldest_7 (by decide) ?_
  refine qj_istore_n (ls1 := [some (.ref 35), some (.ref v0), some (.int (1 : Int32))]) cx dX0_dropOldest_8 rfl rfl rfl rfl ?_
  exact L9 qc_fu w (1 : Int32) hL
