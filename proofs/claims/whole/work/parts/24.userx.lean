/-! QuietChannels.user where it throws -/
abbrev qx_E1 : String := "java/lang/IndexOutOfBoundsException"
abbrev qx_E2 : String := "java/util/NoSuchElementException"
abbrev qx_y : String := "java/lang/RuntimeException"
abbrev qx_r : List String := ["java/lang/Exception"]
abbrev qx_ds : List Cond := [.declares (Bundle.initS "java/lang/RuntimeException"), .declares (Bundle.initS "java/lang/Exception"), .declares (Bundle.initS Bundle.tN)]
/-- what a throw and its catching want beside the rest -/
def qx_G (A : Nat → Prop) (U : State) : Prop := vx_Zq Bundle.tN "UNASSIGNED_STACK" Bundle.steD A U U.heap ∧ vx_Zq Bundle.tN "SUPPRESSED_SENTINEL" Bundle.listD A U U.heap ∧ va_Nw (.castable qx_E1 qx_E1) U ∧ va_Nw (.castable qx_E2 qx_E2) U ∧ va_Nc qx_E2 qx_E1 U ∧ ∀ w ∈ qx_ds, va_Nw w U
theorem qx_G.next {A : Nat → Prop} {s U : State} (h : qx_G A s) (hW : s.WarmedH U.vm) (hk : ∀ q : Nat, q < s.heap.size → ¬ A q → U.heap[q]? = s.heap[q]?) : qx_G A U := by
  obtain ⟨h1, h2, h3, h4, h5, h6⟩ := h
  refine ⟨(h1.kept hk).moved hW.alike, (h2.kept hk).moved hW.alike, h3.warmC hW, h4.warmC hW, h5.moved hW.alike, fun w hw => ?_⟩
  have h7 := h6 w hw
  simp only [List.mem_cons, List.not_mem_nil, or_false] at hw
  rcases hw with rfl | rfl | rfl <;> exact va_tabs rfl (rfl : (s.setVm U.vm).vm = U.vm) (by rw [Cond.declares_setVm hW.alike]; exact h7)
theorem qx_G.narrow {A B : Nat → Prop} {U : State} (h : qx_G A U) (hAB : ∀ q, B q → A q) : qx_G B U := ⟨h.1.narrow hAB, h.2.1.narrow hAB, h.2.2⟩
theorem qx_G.calling {A : Nat → Prop} {U : State} {g : JFrame} {mk : MethodId} {a : Array Value} (h : qx_G A U) : qx_G A (U.calling g mk a) := qx_G.next (U := U.calling g mk a) h (State.WarmedH.refl U) (fun _ _ _ => rfl)
def qx_XC (D : va_G) (ca : Nat → ClassId) (A : Nat → Prop) (ad0 : Nat → Nat) (h : qc_Pl) (E0 : String) : String → State → State → Prop := fun E st t => E = E0 ∧ qc_wk D ca A ad0 h t.heap ∧ va_F A st t
def qx_P (D : va_G) (ca : Nat → ClassId) (A : Nat → Prop) (ad0 : Nat → Nat) (av : List Value) (h : qc_Pl) : Array Value → State → Prop := fun v U => qc_P D ca A ad0 av h v U ∧ qx_G A U
def qx_No : Array Value → State → Outcome → State → Prop := fun _ _ _ _ => False
/-- a method throws E0, and leaves the pool as it was -/
def qx_M (l : Launch) (y : MethodName) (cc : ByteArray) (maxL : Nat) (ret : Option FieldType) (rF rL mc ms : Nat) (av : List Value) (h : qc_Pl) (E0 : String) : Prop :=
  ∀ (D : va_G) (ca : Nat → ClassId) (A : Nat → Prop) (ad0 : Nat → Nat), vx_Met l y (.code y cc maxL ret :: qc_GW) ({ frames := rF, cells := mc, slots := ms, locals := rL } : Room) (qx_P D ca A ad0 av h) qx_No (qx_XC D ca A ad0 h E0) mc ms A
theorem qx_enter {l : Launch} {y : MethodName} {cc : ByteArray} {maxL : Nat} {ret : Option FieldType} {rF rL mc ms : Nat} {av : List Value} {h : qc_Pl} {E0 : String} (hy : plainName y.cls = true) (hlen : (qc_ent av).length ≤ maxL)
    (body : ∀ (p : Program) (e : Env) (R : Room) (s : State) (m : MethodId) (args : Array Value) (below : List Frame) (meth : Method) (c : Code) (D : va_G) (ca : Nat → ClassId) (A : Nat → Prop) (ad0 : Nat → Nat), qc_X (p, l, e, R, s, m, args, below, meth, c, maxL, D, ca, A, qc_n h, ad0, vx_MQ below qx_No (qx_XC D ca A ad0 h E0) args s mc ms A) cc y.cls y.name rF mc ms rL → qx_G A s → (∀ x ∈ c.exceptionTable.toList, False) → qc_J (p, l, e, R, s, m, args, below, meth, c, maxL, D, ca, A, qc_n h, ad0, vx_MQ below qx_No (qx_XC D ca A ad0 h E0) args s mc ms A) 0 0 0 (qc_el maxL av) [] h) : qx_M l y cc maxL ret rF rL mc ms av h E0 := by
  intro D ca A ad0
  refine vx_ofW (cc := cc) (maxL := maxL) (ret := ret) hy rfl ?_
  intro p e s m args below meth c s₁ B hml hex hv
  obtain ⟨⟨rfl, hw, hG⟩, hg⟩ := hv
  have hx := B.exec
  have hb := B.bytes
  have hts := atoms_spec (ws := .code y cc maxL ret :: qc_GW) B.pre
  have hown : s.vm.findClass y.cls = some m.cls := findClass_of_methodNamed B.named
  have hlocks := B.notSynchronized
  have hl := lv_entry (av.map (qc_rv ad0)) (n := maxL) (by rw [qc_sl_len]; exact hlen)
  rw [lg_entry_eq]
  generalize (lg_sl (av.map (qc_rv ad0)) ++ List.replicate (maxL - (lg_sl (av.map (qc_rv ad0))).length) Slot.unset).toArray = la at hl ⊢
  have key := body p e (headSpec (.code y cc maxL ret :: qc_GW) ({ frames := rF, cells := mc, slots := ms, locals := rL } : Room)).room s m (av.map (qc_rv ad0)).toArray below meth c D ca A ad0
    ⟨hx, hb, hml, hown, fun w hw => hts w (List.mem_cons_of_mem _ hw), hlocks, hG, ⟨Nat.le_refl _, rfl, rfl, Nat.le_refl _⟩, (name_of_methodNamed B.named B.method).1⟩ hg hex
  refine key ad0 s.heap [] la hw va_S.rf (fun _ _ => rfl) ⟨hl.1, hl.2.1, by unfold qc_el; rw [List.length_append, List.length_replicate]; omega, fun i v hi => ?_⟩
  have h1 := qc_ent_in _ 0 (qc_ent_map (ad := ad0) _ _ _ (qc_el_in hi))
  rw [Nat.zero_add] at h1
  exact hl.2.2 _ h1
/-- the row of a throw, over tokens -/
theorem qx_row {p : Program} {l : Launch} {e : Env} {R : Room} {s : State} {m : MethodId} {args : Array Value} {below : List Frame} {meth : Method} {c : Code} {nL : Nat} {D : va_G} {ca : Nat → ClassId} {A : Nat → Prop} {ad0 : Nat → Nat} {h : qc_Pl} {E0 nm : String} {cc : ByteArray} {rF rL pc : Nat} {ls : List (Option Value)} {ik is ic ix ti : Nat} {rx : ByteArray}
    (cx : qc_X (p, l, e, R, s, m, args, below, meth, c, nL, D, ca, A, qc_n h, ad0, vx_MQ below qx_No (qx_XC D ca A ad0 h E0) args s 1 6 A) cc "QuietChannels" nm rF 1 6 rL) (hg : qx_G A s) (hex : ∀ x ∈ c.exceptionTable.toList, False) (hl : l.stackTraces = false)
    (x0 : decode rx 0 = .ok (.aload_n 0, 1)) (x1 : decode rx 1 = .ok (.aload_n 1, 1)) (x2 : decode rx 2 = .ok (.invokespecial ix, 3)) (x5 : decode rx 5 = .ok (.return_, 1)) (hcls : Bundle.fit E0 = true)
    (w1 : Cond.classLink "QuietChannels" ik E0 ∈ qc_GW) (w2 : Cond.initialized E0 ∈ qc_GW) (hti : ti < 3 ∧ (qc_to ti).1 = "QuietChannels" ∧ (qc_to ti).2.1 = is) (hca : va_Nw (.castable E0 E0) s) (hal : (qx_at "QuietChannels" ic E0 ix rx qx_y qx_r).all (fun w => (goodWord w && decide (w ∈ lw_tbl)) || decide (w ∈ Cond.castable E0 E0 :: qx_ds)) = true)
    (d0 : decode cc pc = .ok (.new ik, 3)) (d3 : decode cc (pc + 3) = .ok (.dup, 1)) (d4 : decode cc (pc + 4) = .ok (.ldc is, 2)) (d6 : decode cc (pc + 6) = .ok (.invokespecial ic, 3)) (d9 : decode cc (pc + 9) = .ok (.athrow, 1)) (hr : 6 ≤ rF ∧ 82 ≤ rL) :
    qc_J (p, l, e, R, s, m, args, below, meth, c, nL, D, ca, A, qc_n h, ad0, vx_MQ below qx_No (qx_XC D ca A ad0 h E0) args s 1 6 A) 0 0 pc ls [] h := by
  obtain ⟨hx, hb, hml, hown, hts, hlocks, hG, hroom, hnm⟩ := cx
  intro ad H locs la hw hS ha hl9
  have had : ad = ad0 := funext fun u => ha u (fun z => by omega)
  subst had
  have hat : ∀ w ∈ qx_at "QuietChannels" ic E0 ix rx qx_y qx_r, w.before args s = true := fun w hw => by
    have h1 := List.all_eq_true.mp hal w hw
    simp only [Bool.or_eq_true, Bool.and_eq_true, decide_eq_true_eq] at h1
    rcases h1 with ⟨h1, h2⟩ | h1
    · exact hts w (List.mem_filter.mpr ⟨h2, h1⟩)
    · rcases List.mem_cons.mp h1 with rfl | h1
      · exact va_Nw.use rfl hca
      · have h7 := hg.2.2.2.2.2 w h1
        simp only [List.mem_cons, List.not_mem_nil, or_false] at h1
        rcases h1 with rfl | rfl | rfl <;> exact va_Nw.use rfl h7
  have hgood : ∀ w ∈ Cond.classLink "QuietChannels" ik E0 :: Cond.initialized E0 :: qx_at "QuietChannels" ic E0 ix rx qx_y qx_r, vx_ot w = true := fun w hw => by
    rcases List.mem_cons.mp hw with rfl | hw
    · rfl
    · rcases List.mem_cons.mp hw with rfl | hw
      · rfl
      · have h1 := List.all_eq_true.mp hal w hw
        simp only [Bool.or_eq_true, Bool.and_eq_true, decide_eq_true_eq] at h1
        unfold vx_ot
        rcases h1 with ⟨h1, -⟩ | h1
        · rw [h1, Bool.or_true]
        · rcases List.mem_cons.mp h1 with rfl | h1
          · rfl
          · simp only [List.mem_cons, List.not_mem_nil, or_false] at h1
            rcases h1 with rfl | rfl | rfl <;> rfl
  have hstr := (hG.2.2.2.2.2.2.1.1 ti hti.1).2
  rw [hti.2.1, hti.2.2] at hstr
  have hnl : R.locals ≥ 82 := by omega
  exact qx_throw (Y9 := qx_y) (r9 := qx_r) (rest := []) (A := A) hx hb hl x0 x1 x2 x5 hown hcls (by decide) (hts _ w1) (hts _ w2) hstr hat hgood hg.1 hg.2.1 hS (hl9.1.trans hml.symm) d0 d3 d4 d6 d9 (fun x hx => (hex x hx).elim) (by show 2 + 3 < R.frames; omega) (by show 0 + (13 * (2 + 1) + 43) ≤ R.locals; omega) (by omega) (by omega) hlocks
    (fun t hvm hz hk => ⟨rfl, ⟨hw.1.kept (fun k q hq => hk q.1 ((hw.1 k q hq).lt)), hw.2⟩, Nat.le_trans hS.1 hz, fun q h1 h2 => (hk q (Nat.lt_of_lt_of_le h1 hS.1)).trans (hS.2.1 q h1 h2)⟩) (fun z hz => hS.2.2 z hz) (Nat.le_refl _) (Nat.le_refl _)
theorem qx_w1 : (qx_at "QuietChannels" 159 qx_E1 7 Bundle.six qx_y qx_r).all (fun w => (goodWord w && decide (w ∈ lw_tbl)) || decide (w ∈ Cond.castable qx_E1 qx_E1 :: qx_ds)) = true := by decide +kernel
theorem qx_w2 : (qx_at "QuietChannels" 178 qx_E2 13 prog_26_method_4_code qx_y qx_r).all (fun w => (goodWord w && decide (w ∈ lw_tbl)) || decide (w ∈ Cond.castable qx_E2 qx_E2 :: qx_ds)) = true := by decide +kernel
theorem lw_off {l : Launch} (h : l.flags = flags0) : l.stackTraces = false := by
  unfold Launch.stackTraces
  rw [h]
  decide +kernel
/-- user: no such user -/
theorem c_X6_user_t1 {I : Nat → Nat → Int32} {J : Nat → Nat → Int64} {w : Nat → Nat} {a b : Int32} (hP : P_X4_isUser I 2 a = some 0) {l : Launch} (hl : l.stackTraces = false) : qx_M l yX6_user cX6_user 3 (some .int) 6 100 1 6 [.ref 0, .int a, .int b] (I, J, (rX w, kX, nX, 121)) qx_E1 := by
  refine qx_enter (by decide) (Nat.le_of_ble_eq_true rfl) ?_
  intro p e R s m args below meth c D ca A ad0 cx hg hex
  have hn0 : 121 ≤ 121 := Nat.le_refl _
  have cx9 := cx
  generalize hF : ((p, l, e, R, s, m, args, below, meth, c, 3, D, ca, A, qc_n (I, J, (rX w, kX, nX, 121)), ad0, vx_MQ below qx_No (qx_XC D ca A ad0 (I, J, (rX w, kX, nX, 121)) qx_E1) args s 1 6 A) : qc_F) = F at cx
  have hn0 : F.2.2.2.2.2.2.2.2.2.2.2.2.2.2.1 ≤ 121 := by rw [← hF]; exact Nat.le_refl _
  have cx : qc_X F cX6_user RX6 "user" 6 1 6 100 := cx
  show qc_J F 0 0 0 [some (.ref 0), some (.int a), some (.int b)] [] (I, J, (rX w, kX, nX, 121))
  refine qj_aload_n cx dX6_user_0 rfl rfl ?_
  refine qw_getR (j := 4) (t1 := 2) cx dX6_user_1 qc_cl6 rfl (Nat.le_of_ble_eq_true rfl) rfl ww_334 rfl ?_
  refine qj_iload_n cx dX6_user_4 rfl rfl ?_
  refine qj_callV (As := [.int a]) (st := []) (t := 2) (h' := (I, J, (rX w, kX, nX, 121))) (r := some (.int 0)) cx dX6_user_5 (c_X4_isUser (I := I) (J := J) (w := w) (Nat.le_refl _) (by decide) (qc_sc2 (Nat.le_refl _)) hP) gc_RX6_94 qm_X4_isUser rfl rfl qc_cl4 rfl (Nat.le_of_ble_eq_true rfl) (by decide) (by decide) rfl (Nat.le_of_ble_eq_true rfl) (Nat.le_of_ble_eq_true rfl) hn0 rfl ?_
  refine qj_if_ne (tgt := 21) cx dX6_user_8 (by decide) (fun c2 => absurd rfl c2) (fun c2 => ?_)
  subst hF
  exact qx_row (ti := 0) cx9 hg hex hl (by decide +kernel) (by decide +kernel) (by decide +kernel) (by decide +kernel) (by decide) ww_974 ww_130 (by decide) hg.2.2.1 qx_w1 dX6_user_11 dX6_user_14 dX6_user_15 dX6_user_17 dX6_user_20 (by decide)
/-- user: no such what -/
theorem c_X6_user_t2 {I : Nat → Nat → Int32} {J : Nat → Nat → Int64} {w : Nat → Nat} {a b : Int32} {q1 : Int32} (hP : P_X4_isUser I 2 a = some q1) (hq : q1 ≠ 0) (h0 : b ≠ 0) (h1 : b ≠ 1) (h2 : b ≠ 2) (h3 : b ≠ 3) (h4 : b ≠ 4) (h5 : b ≠ 5) (h6 : b ≠ 6) {l : Launch} (hl : l.stackTraces = false) : qx_M l yX6_user cX6_user 3 (some .int) 6 100 1 6 [.ref 0, .int a, .int b] (I, J, (rX w, kX, nX, 121)) qx_E2 := by
  refine qx_enter (by decide) (Nat.le_of_ble_eq_true rfl) ?_
  intro p e R s m args below meth c D ca A ad0 cx hg hex
  have hn0 : 121 ≤ 121 := Nat.le_refl _
  have cx9 := cx
  generalize hF : ((p, l, e, R, s, m, args, below, meth, c, 3, D, ca, A, qc_n (I, J, (rX w, kX, nX, 121)), ad0, vx_MQ below qx_No (qx_XC D ca A ad0 (I, J, (rX w, kX, nX, 121)) qx_E2) args s 1 6 A) : qc_F) = F at cx
  have hn0 : F.2.2.2.2.2.2.2.2.2.2.2.2.2.2.1 ≤ 121 := by rw [← hF]; exact Nat.le_refl _
  have cx : qc_X F cX6_user RX6 "user" 6 1 6 100 := cx
  show qc_J F 0 0 0 [some (.ref 0), some (.int a), some (.int b)] [] (I, J, (rX w, kX, nX, 121))
  refine qj_aload_n cx dX6_user_0 rfl rfl ?_
  refine qw_getR (j := 4) (t1 := 2) cx dX6_user_1 qc_cl6 rfl (Nat.le_of_ble_eq_true rfl) rfl ww_334 rfl ?_
  refine qj_iload_n cx dX6_user_4 rfl rfl ?_
  refine qj_callV (As := [.int a]) (st := []) (t := 2) (h' := (I, J, (rX w, kX, nX, 121))) (r := some (.int q1)) cx dX6_user_5 (c_X4_isUser (I := I) (J := J) (w := w) (Nat.le_refl _) (by decide) (qc_sc2 (Nat.le_refl _)) hP) gc_RX6_94 qm_X4_isUser rfl rfl qc_cl4 rfl (Nat.le_of_ble_eq_true rfl) (by decide) (by decide) rfl (Nat.le_of_ble_eq_true rfl) (Nat.le_of_ble_eq_true rfl) hn0 rfl ?_
  refine qj_if_ne (tgt := 21) cx dX6_user_8 (by decide) (fun c2 => ?_) (fun c2 => absurd c2 hq)
  refine qj_iload_n cx dX6_user_21 rfl rfl ?_
  refine qj_tableOut (tgt := 141) cx dX6_user_22 (by have := lv_neT (a := 0) h0 (by decide); have := lv_neT (a := 1) h1 (by decide); have := lv_neT (a := 2) h2 (by decide); have := lv_neT (a := 3) h3 (by decide); have := lv_neT (a := 4) h4 (by decide); have := lv_neT (a := 5) h5 (by decide); have := lv_neT (a := 6) h6 (by decide); omega) (by decide) ?_
  subst hF
  exact qx_row (ti := 1) cx9 hg hex hl (by decide +kernel) (by decide +kernel) (by decide +kernel) (by decide +kernel) (by decide) ww_1042 ww_131 (by decide) hg.2.2.2.1 qx_w2 dX6_user_141 dX6_user_144 dX6_user_145 dX6_user_147 dX6_user_150 (by decide)
