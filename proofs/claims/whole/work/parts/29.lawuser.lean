theorem gc_RL_7 : qc_cV RL 7 RX6 yX6_user := ⟨ww_970, ww_971, ww_972, ww_112⟩
theorem qm_X6_user : qc_mw yX6_user cX6_user 3 (Option.some Jvm.ClassFile.FieldType.int) 2 := ⟨ww_973, by decide, by decide, by decide +kernel⟩
/-! THE LAW'S user: it calls QuietChannels.user and catches -/
section LUC
variable {p : Program} {l : Launch} {e : Env} {R : Room} {s : State} {m : MethodId} {args : Array Value} {below : List Frame} {meth : Method} {c : Code} {nL : Nat} {H : Heap} {locs : List Loc} {cells slots : Nat} {Q : State → Prop} {D : va_G} {ca : Nat → ClassId} {A : Nat → Prop} {ad ad0 : Nat → Nat} {cc : ByteArray} {own : String} {pc : Nat} {la : Array Slot} {rest : List Value} {y : MethodName} {code1 : ByteArray} {maxL : Nat} {ret : Option FieldType} {rF1 rL1 mc ms n idx kk N : Nat} {C : String} {T : u_T} {tyf : Nat → FieldType} {As : List Value} {r : Option Value} {h h' : qc_Pl} {E0 : String}
theorem lu_A (hG : qc_Gd D ca A ad0 s) (hw : qc_wk D ca A ad h H) (hS : va_S A s.heap H locs) : ∀ q, lw_A1 (qc_n h) ad H q → A q := fun q hq => by
  rcases hq with ⟨t, ht, rfl⟩ | hq
  · exact hw.inA ht
  · exact hG.2.2.2.2.1 q (Nat.le_trans hS.1 hq)
theorem lu_gd (hG : qc_Gd D ca A ad0 s) (hw : qc_wk D ca A ad h H) (hro : ∀ i, i < 30 → ad (qc_RO + i) = ad0 (qc_RO + i)) (hS : va_S A s.heap H locs) {U : State} (hU : U.heap = H) (hW : s.WarmedH U.vm) : qc_Gd D ca (lw_A1 (qc_n h) ad H) ad U :=
  (hG.next hW (by rw [hU]; exact hS.1) (fun q h1 h2 => by rw [hU]; exact hS.2.1 q h1 h2) hro).narrow (lu_A hG hw hS) (fun q hq => Or.inr (by rw [hU] at hq; exact hq))
theorem lu_call (hx : p.tables.exec = Jvm.exec) (hb : c.code = cc) (hml : c.maxLocals = nL) (hown : s.vm.findClass own = some m.cls) (hts : ∀ w ∈ qc_GW, w.before args s = true) (hG : qc_Gd D ca A ad0 s)
    (hM : ∀ l, qc_M l y code1 maxL ret rF1 rL1 mc ms (.ref 0 :: As) h r h') (hcw : qc_cV own idx C y) (hmw : qc_mw y code1 maxL ret n) (hyC : y.cls = C) (hA : As.length = n) (hcl : qc_cl kk C T N tyf) (hk : qc_K h 0 = kk) (ht : 0 < qc_n h) (hAs : ∀ f, As.map (qc_rv f) = As)
    (hrm : rF1 + 1 ≤ R.frames ∧ 8 + (maxL + 11) + rL1 ≤ R.locals) (hce : cells + mc ≤ R.cells ∧ slots + ms ≤ R.slots) (hsu : (rest.map fun v => v.category).sum ≤ 8)
    (hw : qc_wk D ca A ad h H) (hro : ∀ i, i < 30 → ad (qc_RO + i) = ad0 (qc_RO + i)) (hS : va_S A s.heap H locs) (hla : la.size = nL) (hd : decode cc pc = .ok (.invokevirtual idx, 3))
    (k : ∀ (ad' : Nat → Nat) (H' : Heap) (locs' : List Loc), qc_wk D ca A ad' h' H' → (∀ u, ¬ (qc_n h ≤ u ∧ u < qc_n h') → ad' u = ad u) → H.size ≤ H'.size → (∀ q, q < H.size → ¬ lw_A1 (qc_n h) ad H q → H'[q]? = H[q]?) → va_S A s.heap H' locs' → W p l e R s m args below meth c H' locs' (cells + mc) (slots + ms) Q (F0 m (pc + 3) la ((r.map (qc_rv ad')).toList ++ rest))) :
    W p l e R s m args below meth c H locs cells slots Q (F0 m pc la (As.reverse ++ .ref (ad 0) :: rest)) := by
  obtain ⟨h8, hc, -⟩ := hcl
  have hA1 := lu_A hG hw hS
  have hrecv := va_recv hG.1 hw.1 hc ((qc_W_at ht).trans (by rw [qc_E_obj hk h8]))
  have hr := va_runV (l := l) (e := e) (R := R) (below := below) (meth := meth) (locs := locs) (cells := cells) (slots := slots) (g := F0 m pc la (As.reverse ++ .ref (ad 0) :: rest)) (rest := rest) (As := As) (b := ad 0) ⟨hx, hb, hml, hown, hts⟩ (hM l D ca (lw_A1 (qc_n h) ad H) ad) (cwV n hts (qc_goodV hcw hmw.1) rfl rfl rfl ⟨hyC, hmw.2⟩ ⟨by show rF1 + 1 ≤ R.frames; omega, by show 8 + (maxL + 11) + rL1 ≤ R.locals; omega⟩)
    ⟨qc_blind, hrecv, fun U hU hW => ⟨by rw [List.map_cons, hAs]; rfl, by rw [hU]; exact hw.self, lu_gd hG hw hro hS hU hW⟩⟩ rfl hA hla rfl (by show 2 * 0 + _ ≤ 8; omega) hd ⟨by omega, by omega⟩
  intro T hT X
  obtain ⟨v, st₀, t, T', L, h0, X', hL, e1, e2, ⟨ad', ⟨hv, hw', hag⟩, hz', hk'⟩, stp⟩ := hr T hT X
  cases hv
  rw [h0] at hz' hk'
  obtain ⟨t2, a1, b1⟩ := k ad' T'.heap (locs ++ L) (by rw [e1]; exact ⟨hw'.1, hw'.2.weaken (fun _ _ _ hq => hA1 _ hq)⟩) hag (by rw [e1]; exact hz') (fun q h1 h2 => by rw [e1]; exact hk' q h1 h2)
    ⟨Nat.le_trans hS.1 (by rw [e1]; exact hz'), fun q h1 h2 => by rw [e1, hk' q (Nat.lt_of_lt_of_le h1 hS.1) (fun z => h2 (hA1 q z))]; exact hS.2.1 q h1 h2, fun q hq => by
      rcases List.mem_append.mp hq with z | z
      · exact hS.2.2 q z
      · exact hA1 _ (hL q z)⟩ T' rfl X'
  exact ⟨t2, stp t2 a1, b1⟩
theorem qx_blind {D : va_G} {ca : Nat → ClassId} {A : Nat → Prop} {ad0 : Nat → Nat} {av : List Value} {h : qc_Pl} : FrameBlind (qx_P D ca A ad0 av h) := by
  intro a U g mk q
  exact ⟨qc_blind _ _ _ _ q.1, q.2.calling⟩
/-- .. and where it throws -/
theorem lu_callX (hx : p.tables.exec = Jvm.exec) (hb : c.code = cc) (hml : c.maxLocals = nL) (hown : s.vm.findClass own = some m.cls) (hts : ∀ w ∈ qc_GW, w.before args s = true) (hG : qc_Gd D ca A ad0 s) (hg : qx_G A s)
    (hM : qx_M l y code1 maxL ret rF1 rL1 mc ms (.ref 0 :: As) h E0) (hcw : qc_cV own idx C y) (hmw : qc_mw y code1 maxL ret n) (hyC : y.cls = C) (hA : As.length = n) (hcl : qc_cl kk C T N tyf) (hk : qc_K h 0 = kk) (ht : 0 < qc_n h) (hAs : ∀ f, As.map (qc_rv f) = As)
    (hrm : rF1 + 1 ≤ R.frames ∧ 8 + (maxL + 11) + rL1 ≤ R.locals) (hce : cells + mc ≤ R.cells ∧ slots + ms ≤ R.slots) (hsu : (rest.map fun v => v.category).sum ≤ 8)
    (hw : qc_wk D ca A ad h H) (hro : ∀ i, i < 30 → ad (qc_RO + i) = ad0 (qc_RO + i)) (hS : va_S A s.heap H locs) (hla : la.size = nL) (hd : decode cc pc = .ok (.invokevirtual idx, 3))
    (k : ∀ (q9 : Nat) (ce : Cell) (H' : Heap) (locs' : List Loc), qc_wk D ca A ad h H' → H.size ≤ H'.size → (∀ q, q < H.size → ¬ lw_A1 (qc_n h) ad H q → H'[q]? = H[q]?) → va_S A s.heap H' locs' → H'[q9]? = some ce → ce.vm = .none → s.vm.findClass E0 = some ce.cls → vx_W p l e R s m args below meth c H' locs' (cells + mc) (slots + ms) Q (F0 m pc la rest) q9) :
    W p l e R s m args below meth c H locs cells slots Q (F0 m pc la (As.reverse ++ .ref (ad 0) :: rest)) := by
  obtain ⟨h8, hc, -⟩ := hcl
  have hA1 := lu_A hG hw hS
  have hrecv := va_recv hG.1 hw.1 hc ((qc_W_at ht).trans (by rw [qc_E_obj hk h8]))
  have hr := vx_runV (l := l) (e := e) (R := R) (below := below) (meth := meth) (locs := locs) (cells := cells) (slots := slots) (g := F0 m pc la (As.reverse ++ .ref (ad 0) :: rest)) (rest := rest) (As := As) (b := ad 0) ⟨hx, hb, hml, hown, hts⟩ (hM D ca (lw_A1 (qc_n h) ad H) ad) (cwV n hts (qc_goodV hcw hmw.1) rfl rfl rfl ⟨hyC, hmw.2⟩ ⟨by show rF1 + 1 ≤ R.frames; omega, by show 8 + (maxL + 11) + rL1 ≤ R.locals; omega⟩)
    ⟨qx_blind, hrecv, fun U hU hW => ⟨⟨by rw [List.map_cons, hAs]; rfl, by rw [hU]; exact hw.self, lu_gd hG hw hro hS hU hW⟩, (hg.next hW (fun q h1 h2 => by rw [hU]; exact hS.2.1 q h1 h2)).narrow hA1⟩⟩ rfl hA hla rfl (by show 2 * 0 + _ ≤ 8; omega) hd ⟨by omega, by omega⟩
  intro T hT X
  rcases hr T hT X with ⟨v, st₀, t, T', L, h0, X', hL, e1, e2, hno, stp⟩ | ⟨q, st₀, t, T', L, E, ce, h0, X', hL, e1, e2, ⟨rfl, hw', hz', hk'⟩, hce, hcv, hcl, stp⟩
  · exact hno.elim
  · rw [h0] at hz' hk'
    obtain ⟨t2, a1, b1⟩ := k q ce T'.heap (locs ++ L) (by rw [e1]; exact ⟨hw'.1, hw'.2.weaken (fun _ _ _ hq => hA1 _ hq)⟩) (by rw [e1]; exact hz') (fun q h1 h2 => by rw [e1]; exact hk' q h1 h2)
      ⟨Nat.le_trans hS.1 (by rw [e1]; exact hz'), fun q h1 h2 => by rw [e1, hk' q (Nat.lt_of_lt_of_le h1 hS.1) (fun z => h2 (hA1 q z))]; exact hS.2.1 q h1 h2, fun q hq => by
        rcases List.mem_append.mp hq with z | z
        · exact hS.2.2 q z
        · exact hA1 _ (hL q z)⟩ (by rw [e1]; exact hce) hcv hcl T' rfl X'
    exact ⟨t2, stp.trans a1, b1⟩
end LUC
abbrev lu_hh : List (Nat × Nat × Nat × Nat) := [(0, 10, 13, 13), (0, 10, 17, 15)]
def lu_P (D : va_G) (ca : Nat → ClassId) (A : Nat → Prop) (ad : Nat → Nat) (h : qc_Pl) (qo : Nat) (cL : ClassId) (o : Int64) (a b : Int32) : Array Value → State → Prop := fun v U => v = ([.ref (ad 0), .int a, .int b, .ref qo] : List Value).toArray ∧ qc_wk D ca A ad h U.heap ∧ U.heap[qo]? = some (arrV cL 1 (fun _ => .long o)) ∧ (∀ t, t < qc_n h → ad t ≠ qo) ∧ A qo ∧ qc_Gd D ca A ad U ∧ qx_G A U ∧ va_K D vwCl [(cL, .long)] U
def lu_Q (D : va_G) (ca : Nat → ClassId) (A : Nat → Prop) (ad : Nat → Nat) (h : qc_Pl) (qo : Nat) (cL : ClassId) (v : Int32) (o' : Int64) : Array Value → State → Outcome → State → Prop := fun _ st r t => (r = .returned (some (.int v)) ∧ qc_wk D ca A ad h t.heap ∧ t.heap[qo]? = some (arrV cL 1 (fun _ => .long o'))) ∧ va_F A st t
def lu_M (l : Launch) (h : qc_Pl) (a b v : Int32) (o o' : Int64) : Prop := ∀ (D : va_G) (ca : Nat → ClassId) (A : Nat → Prop) (ad : Nat → Nat) (qo : Nat) (cL : ClassId), Met l yL_user (.codeWith yL_user cL_user 5 (some .int) lu_hh :: qc_GW) ({ frames := 7, cells := 1, slots := 6, locals := 130 } : Room) (lu_P D ca A ad h qo cL o a b) (lu_Q D ca A ad h qo cL v o') 1 6 A
theorem lu_qo {D : va_G} {ca : Nat → ClassId} {A : Nat → Prop} {ad : Nat → Nat} {h : qc_Pl} {qo : Nat} {cL : ClassId} {o : Int64} {H H' : Heap} (hq : H[qo]? = some (arrV cL 1 (fun _ => .long o))) (hn : ∀ t, t < qc_n h → ad t ≠ qo) (hk : ∀ q, q < H.size → ¬ lw_A1 (qc_n h) ad H q → H'[q]? = H[q]?) : H'[qo]? = some (arrV cL 1 (fun _ => .long o)) := by
  have hlt : qo < H.size := (Array.getElem?_eq_some_iff.mp hq).1
  rw [hk qo hlt (fun z => by
    rcases z with ⟨t, ht, e⟩ | z
    · exact hn t ht e.symm
    · omega)]
  exact hq
set_option maxHeartbeats 1000000 in
/-- where user answers -/
theorem lu_0 {l : Launch} {I : Nat → Nat → Int32} {J : Nat → Nat → Int64} {w : Nat → Nat} {a b v : Int32} {o : Int64} (hP : P_X6_user I J a b = some v) : lu_M l (I, J, (rX w, kX, nX, 121)) a b 0 o v.toInt64 := by
  intro D ca A ad qo cL
  refine va_MetW (cc := cL_user) (maxL := 5) (ret := some .int) (hh := lu_hh) (by decide) rfl ?_
  intro p e s m args below meth c s₁ B hml hv
  obtain ⟨rfl, hw, hq, hn, hAq, hG, hg, hKl⟩ := hv
  have hx := B.exec
  have hb := B.bytes
  have hr := B.returns
  have hts9 := atoms_spec (ws := .codeWith yL_user cL_user 5 (some .int) lu_hh :: qc_GW) B.pre
  have hts : ∀ w ∈ qc_GW, w.before (([.ref (ad 0), .int a, .int b, .ref qo] : List Value).toArray) s = true := fun w hw => hts9 w (List.mem_cons_of_mem _ hw)
  have hown : s.vm.findClass RL = some m.cls := findClass_of_methodNamed B.named
  have hlocks := B.notSynchronized
  have hl := lv_entry ([.ref (ad 0), .int a, .int b, .ref qo]) (n := 5) (Nat.le_of_ble_eq_true rfl)
  rw [lg_entry_eq]
  generalize (lg_sl ([.ref (ad 0), .int a, .int b, .ref qo]) ++ List.replicate (5 - (lg_sl ([.ref (ad 0), .int a, .int b, .ref qo])).length) Slot.unset).toArray = ls at hl ⊢
  have hl : lv_has ls 5 [(0, .ref (ad 0)), (1, .int a), (2, .int b), (3, .ref qo)] := hl
  refine lv_aload_n hx hb dL_user_0 rfl (lv_at hl 3 rfl) ?_
  refine lv_iconst (v := 0) hx hb dL_user_1 (by decide) ?_
  refine lv_aload_n hx hb dL_user_2 rfl (lv_at hl 0 rfl) ?_
  refine lv_iload_n hx hb dL_user_3 rfl (lv_at hl 1 rfl) ?_
  refine lv_iload_n hx hb dL_user_4 rfl (lv_at hl 2 rfl) ?_
  refine lu_call (own := RL) (As := [.int a, .int b]) (rest := [.int 0, .ref qo]) (r := some (.int v)) (h' := (I, J, (rX w, kX, nX, 121))) hx hb hml hown hts hG (c_X6_user (w := w) (Nat.le_refl _) (by decide) hP) gc_RL_7 qm_X6_user rfl rfl qc_cl6 rfl (Nat.le_of_ble_eq_true rfl) (fun f => rfl) (by decide) (by decide) (Nat.le_of_ble_eq_true rfl) hw (fun i hi => rfl) va_S.rf hl.1 dL_user_5 (fun ad' H' locs' h1 h2 h3 h4 h5 => ?_)
  have had : ad' = ad := funext fun u => h2 u (fun z => by omega)
  subst had
  have hq' := lu_qo (D := D) (ca := ca) (A := A) hq hn h4
  refine lv_i2l (v := v.toInt64) hx hb dL_user_8 rfl ?_
  refine W.last (j := 0) (x := v.toInt64) hx hb hq' ((hKl.2 0 _ rfl).1 1 (fun j => .long o)) (fun q => by cases q) (by show ¬ ((0 : Int32) < 0 ∨ (arrV _ _ _).slots.size ≤ _); rw [arrV_size]; decide) rfl rfl dL_user_9 fun H1 e1 z1 oq => ?_
  have hS1 := h5.put (k := 0) z1 oq hAq
  have hw1 : qc_wk D ca A ad' (I, J, (rX w, kX, nX, 121)) H1 := h1.kept (fun t ht => oq _ (hn t ht))
  have hq1 : H1[qo]? = some (arrV cL 1 (fun _ => .long v.toInt64)) := by
    rw [e1, show (0 : Int32).toNatClampNeg = 0 from rfl, arrV_store]
    refine congrArg some (arrV_congr (fun j hj => ?_))
    unfold updV
    rw [if_pos (by omega)]
  change W _ _ _ _ _ _ _ _ _ _ H1 _ _ _ _ (F0 m 10 ls [])
  refine lv_goto (tgt := 21) hx hb dL_user_10 (by decide) ?_
  refine lv_iconst (v := 0) hx hb dL_user_21 (by decide) ?_
  refine W.widen (k := 1) (n := 6) (by decide) (by decide) ?_
  exact W.iret hx hb hr (fun t ht hW => ⟨⟨rfl, by rw [ht]; exact hw1, by rw [ht]; exact hq1⟩, hS1.F ht⟩) hS1.2.2 dL_user_22 hlocks
set_option maxHeartbeats 1000000 in
/-- where user throws qx_E1 -/
theorem lu_1 {l : Launch} (hl9 : l.stackTraces = false) {I : Nat → Nat → Int32} {J : Nat → Nat → Int64} {w : Nat → Nat} {a b : Int32} {o : Int64} (hP : P_X4_isUser I 2 a = some 0) : lu_M l (I, J, (rX w, kX, nX, 121)) a b 1 o o := by
  intro D ca A ad qo cL
  refine va_MetW (cc := cL_user) (maxL := 5) (ret := some .int) (hh := lu_hh) (by decide) rfl ?_
  intro p e s m args below meth c s₁ B hml hv
  obtain ⟨rfl, hw, hq, hn, hAq, hG, hg, hKl⟩ := hv
  have hx := B.exec
  have hb := B.bytes
  have hr := B.returns
  have hts9 := atoms_spec (ws := .codeWith yL_user cL_user 5 (some .int) lu_hh :: qc_GW) B.pre
  have hts : ∀ w ∈ qc_GW, w.before (([.ref (ad 0), .int a, .int b, .ref qo] : List Value).toArray) s = true := fun w hw => hts9 w (List.mem_cons_of_mem _ hw)
  have hown : s.vm.findClass RL = some m.cls := findClass_of_methodNamed B.named
  have hlocks := B.notSynchronized
  have htab := vx_table (x := yL_user) B (hts9 _ List.mem_cons_self)
  have hl := lv_entry ([.ref (ad 0), .int a, .int b, .ref qo]) (n := 5) (Nat.le_of_ble_eq_true rfl)
  rw [lg_entry_eq]
  generalize (lg_sl ([.ref (ad 0), .int a, .int b, .ref qo]) ++ List.replicate (5 - (lg_sl ([.ref (ad 0), .int a, .int b, .ref qo])).length) Slot.unset).toArray = ls at hl ⊢
  have hl : lv_has ls 5 [(0, .ref (ad 0)), (1, .int a), (2, .int b), (3, .ref qo)] := hl
  refine lv_aload_n hx hb dL_user_0 rfl (lv_at hl 3 rfl) ?_
  refine lv_iconst (v := 0) hx hb dL_user_1 (by decide) ?_
  refine lv_aload_n hx hb dL_user_2 rfl (lv_at hl 0 rfl) ?_
  refine lv_iload_n hx hb dL_user_3 rfl (lv_at hl 1 rfl) ?_
  refine lv_iload_n hx hb dL_user_4 rfl (lv_at hl 2 rfl) ?_
  refine lu_callX (own := RL) (As := [.int a, .int b]) (rest := [.int 0, .ref qo]) (E0 := qx_E1) hx hb hml hown hts hG hg (c_X6_user_t1 hP hl9) gc_RL_7 qm_X6_user rfl rfl qc_cl6 rfl (Nat.le_of_ble_eq_true rfl) (fun f => rfl) (by decide) (by decide) (Nat.le_of_ble_eq_true rfl) hw (fun i hi => rfl) va_S.rf hl.1 dL_user_5 (fun q9 ce H' locs' h1 h3 h4 h5 h6 h7 h8 => ?_)
  have hq' := lu_qo (D := D) (ca := ca) (A := A) hq hn h4
  refine vx_catch (name := qx_E1) hown [] ⟨0, 10, 13, 13⟩ [⟨0, 10, 17, 15⟩] (by rw [htab]; rfl) (fun z hz => nomatch hz) (by decide) (by decide) (hts _ ww_968) (va_Nw.use rfl hg.2.2.1) h6 h7 h8 ?_
  refine lv_astore (lv' := [(4, .ref q9), (0, .ref (ad 0)), (1, .int a), (2, .int b), (3, .ref qo)]) hx hb dL_user_13 hl (by decide) rfl (fun ls hl => ?_)
  refine lv_iconst (v := 1) hx hb dL_user_15 (by decide) ?_
  exact W.iret hx hb hr (fun t ht hW => ⟨⟨rfl, by rw [ht]; exact h1, by rw [ht]; exact hq'⟩, h5.F ht⟩) h5.2.2 dL_user_16 hlocks
set_option maxHeartbeats 1000000 in
/-- where user throws qx_E2 -/
theorem lu_2 {l : Launch} (hl9 : l.stackTraces = false) {I : Nat → Nat → Int32} {J : Nat → Nat → Int64} {w : Nat → Nat} {a b : Int32} {o : Int64} {q1 : Int32} (hP : P_X4_isUser I 2 a = some q1) (hq0 : q1 ≠ 0) (g0 : b ≠ 0) (g1 : b ≠ 1) (g2 : b ≠ 2) (g3 : b ≠ 3) (g4 : b ≠ 4) (g5 : b ≠ 5) (g6 : b ≠ 6) : lu_M l (I, J, (rX w, kX, nX, 121)) a b 2 o o := by
  intro D ca A ad qo cL
  refine va_MetW (cc := cL_user) (maxL := 5) (ret := some .int) (hh := lu_hh) (by decide) rfl ?_
  intro p e s m args below meth c s₁ B hml hv
  obtain ⟨rfl, hw, hq, hn, hAq, hG, hg, hKl⟩ := hv
  have hx := B.exec
  have hb := B.bytes
  have hr := B.returns
  have hts9 := atoms_spec (ws := .codeWith yL_user cL_user 5 (some .int) lu_hh :: qc_GW) B.pre
  have hts : ∀ w ∈ qc_GW, w.before (([.ref (ad 0), .int a, .int b, .ref qo] : List Value).toArray) s = true := fun w hw => hts9 w (List.mem_cons_of_mem _ hw)
  have hown : s.vm.findClass RL = some m.cls := findClass_of_methodNamed B.named
  have hlocks := B.notSynchronized
  have htab := vx_table (x := yL_user) B (hts9 _ List.mem_cons_self)
  have hl := lv_entry ([.ref (ad 0), .int a, .int b, .ref qo]) (n := 5) (Nat.le_of_ble_eq_true rfl)
  rw [lg_entry_eq]
  generalize (lg_sl ([.ref (ad 0), .int a, .int b, .ref qo]) ++ List.replicate (5 - (lg_sl ([.ref (ad 0), .int a, .int b, .ref qo])).length) Slot.unset).toArray = ls at hl ⊢
  have hl : lv_has ls 5 [(0, .ref (ad 0)), (1, .int a), (2, .int b), (3, .ref qo)] := hl
  refine lv_aload_n hx hb dL_user_0 rfl (lv_at hl 3 rfl) ?_
  refine lv_iconst (v := 0) hx hb dL_user_1 (by decide) ?_
  refine lv_aload_n hx hb dL_user_2 rfl (lv_at hl 0 rfl) ?_
  refine lv_iload_n hx hb dL_user_3 rfl (lv_at hl 1 rfl) ?_
  refine lv_iload_n hx hb dL_user_4 rfl (lv_at hl 2 rfl) ?_
  refine lu_callX (own := RL) (As := [.int a, .int b]) (rest := [.int 0, .ref qo]) (E0 := qx_E2) hx hb hml hown hts hG hg (c_X6_user_t2 hP hq0 g0 g1 g2 g3 g4 g5 g6 hl9) gc_RL_7 qm_X6_user rfl rfl qc_cl6 rfl (Nat.le_of_ble_eq_true rfl) (fun f => rfl) (by decide) (by decide) (Nat.le_of_ble_eq_true rfl) hw (fun i hi => rfl) va_S.rf hl.1 dL_user_5 (fun q9 ce H' locs' h1 h3 h4 h5 h6 h7 h8 => ?_)
  have hq' := lu_qo (D := D) (ca := ca) (A := A) hq hn h4
  refine vx_catch (name := qx_E2) hown [⟨0, 10, 13, 13⟩] ⟨0, 10, 17, 15⟩ [] (by rw [htab]; rfl) (fun z hz => by
    rcases List.mem_cons.mp hz with rfl | hz
    · exact Or.inr ⟨by decide, qx_E1, hts _ ww_968, hg.2.2.2.2.1⟩
    · cases hz) (by decide) (by decide) (hts _ ww_969) (va_Nw.use rfl hg.2.2.2.1) h6 h7 h8 ?_
  refine lv_astore (lv' := [(4, .ref q9), (0, .ref (ad 0)), (1, .int a), (2, .int b), (3, .ref qo)]) hx hb dL_user_17 hl (by decide) rfl (fun ls hl => ?_)
  refine lv_iconst (v := 2) hx hb dL_user_19 (by decide) ?_
  exact W.iret hx hb hr (fun t ht hW => ⟨⟨rfl, by rw [ht]; exact h1, by rw [ht]; exact hq'⟩, h5.F ht⟩) h5.2.2 dL_user_20 hlocks
