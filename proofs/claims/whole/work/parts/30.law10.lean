theorem gc_RL_69 : qc_cV RL 69 RX7 yX7_user := ⟨ww_1590, ww_1591, ww_1592, ww_118⟩
theorem gc_RL_70 : qc_cV RL 70 RX7 yX7_thrown := ⟨ww_1232, ww_1233, ww_1234, ww_118⟩
theorem qm_X7_thrown : qc_mw yX7_thrown cX7_thrown 1 (Option.some Jvm.ClassFile.FieldType.int) 0 := ⟨ww_1235, by decide, by decide, by decide +kernel⟩
theorem qm_X7_user : qc_mw yX7_user cX7_user 3 (Option.some Jvm.ClassFile.FieldType.int) 2 := ⟨ww_1593, by decide, by decide, by decide +kernel⟩
/-! THE LAW'S case 10 -/
theorem ww_cwu : Cond.codeWith yL_user cL_user 5 (some .int) lu_hh ∈ qc_GW := qc_gw 967 (by decide +kernel) (by decide +kernel)
theorem lu_good : GoodIn qc_GW (va_wsS RL 64 yL_user (.codeWith yL_user cL_user 5 (some .int) lu_hh :: qc_GW)) := by
  intro w hw
  unfold va_wsS at hw
  rcases List.mem_append.mp hw with h | h
  · have h9 : w ∈ qc_GW := by
      simp only [List.mem_cons, List.not_mem_nil, or_false] at h
      rcases h with rfl | rfl | rfl
      · exact ww_965
      · exact ww_966
      · exact ww_111
    exact ⟨h9, good_of_word (qc_good _ h9)⟩
  · exact qc_goodIn ww_cwu w h
theorem lu_blind {D : va_G} {ca : Nat → ClassId} {A : Nat → Prop} {ad : Nat → Nat} {h : qc_Pl} {qo : Nat} {cL : ClassId} {o : Int64} {a b : Int32} : FrameBlind (lu_P D ca A ad h qo cL o a b) := by
  intro v U g mk q
  obtain ⟨q1, q2, q3, q4, q5, q6, q7, q8⟩ := q
  exact ⟨q1, q2, q3, q4, q5, q6.calling, q7.calling, va_K.moved (u := U) (U := U.calling g mk v) (Vm.Alike.refl U.vm) q8⟩
def lw_A2 (n : Nat) (ad : Nat → Nat) (qo : Nat) (H : Heap) : Nat → Prop := fun q => lw_A1 n ad H q ∨ q = qo
theorem lw_cU {p : Program} {l : Launch} {e : Env} {s : State} {m : MethodId} {below : List Frame} {meth : Method} {c : Code} {b L : Nat} {xs : Nat → Int32} {D : va_G} {ca : Nat → ClassId} {ad0 adX adM : Nat → Nat} {qo : Nat} {cL : ClassId} {o o' : Int64} {H : Heap} {locs : List Loc} {cells slots : Nat} {Q : State → Prop} {pc : Nat} {la : Array Slot} {rest : List Value} {a1 a2 v : Int32} {h hM : qc_Pl}
    (C0 : lw_C p s m meth c b L xs D ca ad0) (hKl : va_K D vwCl [(cL, .long)] s) (hM9 : lu_M l h a1 a2 v o o') (hRO : qc_n h ≤ qc_RO) (hce : cells + 1 ≤ 601024 ∧ slots + 6 ≤ 7293034) (hsu : (rest.map fun v => v.category).sum ≤ 8)
    (hw : lw_w D ca s.heap.size ad0 adX adM h hM qo cL o H) (hS : va_S (fun q => s.heap.size ≤ q) s.heap H locs) (hla : la.size = 7) (hd : decode cL_law pc = .ok (.invokestatic 64, 3))
    (k : ∀ (H' : Heap) (locs' : List Loc), lw_w D ca s.heap.size ad0 adX adM h hM qo cL o' H' → va_S (fun q => s.heap.size ≤ q) s.heap H' locs' → W p l e room_1 s m #[Value.ref b] below meth c H' locs' (cells + 1) (slots + 6) Q (F0 m (pc + 3) la (.int v :: rest))) : W p l e room_1 s m #[Value.ref b] below meth c H locs cells slots Q (F0 m pc la (.ref qo :: .int a2 :: .int a1 :: .ref (adX 0) :: rest)) := by
  obtain ⟨⟨hx, hb, hr, hml, hown, hts, hX, hbl, hlocks, hgv⟩, hG, hg⟩ := C0
  have hts : ∀ w ∈ qc_GW, w.before #[Value.ref b] s = true := fun w hw => hts w (List.mem_filter.mp hw).1
  obtain ⟨w1, w2, w3, ⟨w4, w5⟩, w6, w7, w8, w9⟩ := hw
  have hz : s.heap.size ≤ H.size := hS.1
  have hA2 : ∀ q, lw_A2 (qc_n h) adX qo H q → s.heap.size ≤ q := fun q hq => by
    rcases hq with (⟨t, ht, rfl⟩ | hq) | rfl
    · exact w1.inA ht
    · exact Nat.le_trans hz hq
    · exact w7
  have hr := vx_runSW (l := l) (e := e) (R := room_1) (below := below) (meth := meth) (locs := locs) (cells := cells) (slots := slots) (H := H) (g := F0 m pc la (.ref qo :: .int a2 :: .int a1 :: .ref (adX 0) :: rest)) (rest := rest) (As := [.ref (adX 0), .int a1, .int a2, .ref qo]) ⟨hx, hb, hml, hown, hts⟩ (hM9 D ca (lw_A2 (qc_n h) adX qo H) adX qo cL) (vx_cwSW 4 hts lu_good rfl rfl rfl (by decide +kernel) ⟨by decide, by decide⟩)
    ⟨lu_blind, fun U hU hW => ⟨rfl, by rw [hU]; exact ⟨w1.1, w1.self.2.weaken (fun _ _ _ hq => Or.inl hq)⟩, by rw [hU]; exact w6, w4, Or.inr rfl, (hG.next hW (by rw [hU]; exact hS.1) (fun q h1 h2 => by rw [hU]; exact hS.2.1 q h1 h2) w8).narrow hA2 (fun q hq => Or.inl (Or.inr (by rw [hU] at hq; exact hq))), (hg.next hW (fun q h1 h2 => by rw [hU]; exact hS.2.1 q h1 h2)).narrow hA2, va_K.moved hW.alike hKl⟩⟩ rfl rfl hla rfl (by show 2 * 0 + _ ≤ 8; omega) hd ⟨hce.1, hce.2⟩
  intro T hT X
  obtain ⟨v9, st₀, t, T', L9, h0, X', hL, e1, e2, ⟨⟨hv, hw', hq'⟩, hz', hk'⟩, stp⟩ := hr T hT X
  cases hv
  rw [h0] at hz' hk'
  have hk2 : ∀ q, q < H.size → ¬ lw_A2 (qc_n h) adX qo H q → T'.heap[q]? = H[q]? := fun q h1 h2 => by rw [e1]; exact hk' q h1 h2
  obtain ⟨t2, a1, b1⟩ := k T'.heap (locs ++ L9) ⟨by rw [e1]; exact ⟨hw'.1, hw'.2.weaken (fun _ _ _ hq => hA2 _ hq)⟩, w2.kept (fun u hu => hk2 _ (w2.lt hu) (fun hq => by
      rcases hq with (⟨t, ht, e⟩ | hq) | hq
      · exact w3 t u ht hu e.symm
      · have := w2.lt hu; omega
      · exact w5 u hu hq)), w3, ⟨w4, w5⟩, by rw [e1]; exact hq', w7, w8, w9⟩
    ⟨Nat.le_trans hz (by rw [e1]; exact hz'), fun q h1 h2 => by rw [hk2 q (Nat.lt_of_lt_of_le h1 hz) (fun z => h2 (hA2 q z))]; exact hS.2.1 q h1 h2, fun q hq => by
      rcases List.mem_append.mp hq with z | z
      · exact hS.2.2 q z
      · exact hA2 _ (hL q z)⟩ T' rfl X'
  exact ⟨t2, stp t2 a1, b1⟩
theorem lg_cmp_self (x : Int64) : lg_cmp x x = 0 := by
  unfold lg_cmp
  simp
def St_10 (Rel : (Nat → Nat → Int32) → (Nat → Nat → Int64) → (Nat → Nat) → (Nat → Nat → Int32) → Prop) : Prop := ∀ I J w M (a b : Int32), Rel I J w M → ∃ r th, P_X7_user M a b = some r ∧ P_X7_thrown r.2 = some th ∧ Rel I J w r.2 ∧ ((th = 0 ∧ P_X6_user I J a b = some r.1) ∨ (th = 1 ∧ P_X4_isUser I 2 a = some 0) ∨ (th = 2 ∧ ∃ q1, P_X4_isUser I 2 a = some q1 ∧ q1 ≠ 0 ∧ b ≠ 0 ∧ b ≠ 1 ∧ b ≠ 2 ∧ b ≠ 3 ∧ b ≠ 4 ∧ b ≠ 5 ∧ b ≠ 6))
theorem lw_k10 {p : Program} {l : Launch} {e : Env} {s : State} {m : MethodId} {below : List Frame} {meth : Method} {c : Code} {b L : Nat} {xs : Nat → Int32} {D : va_G} {ca : Nat → ClassId} {ad0 : Nat → Nat} {qo : Nat} {cL : ClassId} {Rel : (Nat → Nat → Int32) → (Nat → Nat → Int64) → (Nat → Nat) → (Nat → Nat → Int32) → Prop} {x4 : Int32} {cells slots : Nat} (C0 : lw_C p s m meth c b L xs D ca ad0) (hKl : va_K D vwCl [(cL, .long)] s) (hl9 : l.stackTraces = false) (hi1 : vp_in (x4 + 1) L) (hi2 : vp_in (x4 + 2) L) (hce : cells + 1 ≤ 601024 ∧ slots + 6 ≤ 7293034) (st : St_10 Rel) (go : lw_Go p l e s m below meth c b D ca ad0 qo cL Rel x4 (cells + 1) (slots + 6) 1522) : lw_Go p l e s m below meth c b D ca ad0 qo cL Rel x4 cells slots 554 := by
  obtain ⟨hx, hb, hr, hml, hown, hts, hX, hbl, hlocks, hgv⟩ := C0.1
  have hbA : ¬ (fun q : Nat => s.heap.size ≤ q) b := Nat.not_le.mpr hbl
  intro I J w M adX adM o H locs la hR hw hS hl
  obtain ⟨r, th, e1, e2, hR, hcs⟩ := st I J w M (xs (x4 + 1).toNatClampNeg) (xs (x4 + 2).toNatClampNeg) hR
  have key : ∃ o' : Int64, lu_M l (I, J, (rX w, kX, nX, 121)) (xs (x4 + 1).toNatClampNeg) (xs (x4 + 2).toNatClampNeg) th o o' ∧ (th = 0 → o' = r.1.toInt64) := by
    rcases hcs with ⟨rfl, h1⟩ | ⟨rfl, h1⟩ | ⟨rfl, q1, h1, h2, g0, g1, g2, g3, g4, g5, g6⟩
    · exact ⟨_, lu_0 h1, fun _ => rfl⟩
    · exact ⟨o, lu_1 hl9 h1, fun h => absurd h (by decide)⟩
    · exact ⟨o, lu_2 hl9 h1 h2 g0 g1 g2 g3 g4 g5 g6, fun h => absurd h (by decide)⟩
  obtain ⟨o', hM9, ho'⟩ := key
  refine lv_aload_n hx hb dL_law_554 rfl (lv_at hl 1 rfl) ?_
  refine lv_aload_n hx hb dL_law_555 rfl (lv_at hl 0 rfl) ?_
  refine lv_iload hx hb dL_law_556 (lv_at hl 4 rfl) ?_
  refine lv_iconst (v := 1) hx hb dL_law_558 (by decide) ?_
  refine lv_iadd hx hb dL_law_559 ?_
  refine va_sld hx hb hX hbl hbA hS hi1 dL_law_560 ?_
  refine lv_aload_n hx hb dL_law_561 rfl (lv_at hl 0 rfl) ?_
  refine lv_iload hx hb dL_law_562 (lv_at hl 4 rfl) ?_
  refine lv_iconst (v := 2) hx hb dL_law_564 (by decide) ?_
  refine lv_iadd hx hb dL_law_565 ?_
  refine va_sld hx hb hX hbl hbA hS hi2 dL_law_566 ?_
  refine lv_aload_n hx hb dL_law_567 rfl (lv_at hl 3 rfl) ?_
  refine lw_cU C0 hKl hM9 (Nat.le_of_ble_eq_true rfl) hce (Nat.le_of_ble_eq_true rfl) hw hS hl.1 dL_law_568 (fun H locs hw hS => ?_)
  refine lv_istore (lv' := [(5, .int th), (0, .ref b), (1, .ref (adX 0)), (2, .ref (adM 0)), (3, .ref qo), (4, .int x4)]) hx hb dL_law_571 hl (by decide) rfl (fun la hl => ?_)
  refine lv_aload_n hx hb dL_law_573 rfl (lv_at hl 3 rfl) ?_
  refine lv_aload_n hx hb dL_law_574 rfl (lv_at hl 1 rfl) ?_
  refine lv_iload hx hb dL_law_575 (lv_at hl 5 rfl) ?_
  refine lv_iconst (v := 1) hx hb dL_law_577 (by decide) ?_
  refine lv_iadd hx hb dL_law_578 ?_
  refine va_sld hx hb hX hbl hbA hS hi1 dL_law_579 ?_
  refine lv_aload_n hx hb dL_law_580 rfl (lv_at hl 1 rfl) ?_
  refine lv_iload hx hb dL_law_581 (lv_at hl 5 rfl) ?_
  refine lv_iconst (v := 2) hx hb dL_law_583 (by decide) ?_
  refine lv_iadd hx hb dL_law_584 ?_
  refine va_sld hx hb hX hbl hbA hS hi2 dL_law_585 ?_
  refine lw_cM (As := [.int (xs (x4 + 1).toNatClampNeg), .int (xs (x4 + 2).toNatClampNeg)]) (v := r.1) (h' := (r.2, (fun _ _ => 0), shM)) (rest := []) C0 (c_X7_user e1) gc_RL_69 qm_X7_user rfl rfl qc_cl7 rfl (Nat.le_of_ble_eq_true rfl) (fun f => rfl) (by decide) rfl (Nat.le_of_ble_eq_true rfl) hce rfl (Nat.le_of_ble_eq_true rfl) hw hS hl.1 dL_law_586 (fun H locs hw hS => ?_)
  refine lv_istore (lv' := [(6, .int r.1), (5, .int th), (0, .ref b), (1, .ref (adX 0)), (2, .ref (adM 0)), (3, .ref qo), (4, .int x4)]) hx hb dL_law_589 hl (by decide) rfl (fun la hl => ?_)
  refine lv_aload_n hx hb dL_law_591 rfl (lv_at hl 4 rfl) ?_
  refine lw_cM (As := []) (v := th) (h' := (r.2, (fun _ _ => 0), shM)) (rest := []) C0 (c_X7_thrown e2) gc_RL_70 qm_X7_thrown rfl rfl qc_cl7 rfl (Nat.le_of_ble_eq_true rfl) (fun f => rfl) (by decide) rfl (Nat.le_of_ble_eq_true rfl) hce rfl (Nat.le_of_ble_eq_true rfl) hw hS hl.1 dL_law_592 (fun H locs hw hS => ?_)
  refine lv_iload hx hb dL_law_595 (lv_at hl 1 rfl) ?_
  refine lv_icmp_eq (tgt := 602) hx hb dL_law_597 (by decide) (fun _ => ?_) (fun c9 => absurd rfl c9)
  refine lv_iload hx hb dL_law_602 (lv_at hl 1 rfl) ?_
  have K : W p l e room_1 s m #[Value.ref b] below meth c H locs (cells + 1) (slots + 6) (lw_Z below #[Value.ref b] s) (F0 m 619 la []) := by
    refine lv_goto (tgt := 1522) hx hb dL_law_619 (by decide) ?_
    exact go _ _ _ _ adX adM o' H locs la hR hw hS (lv_sub hl [2, 3, 4, 5, 6] rfl)
  refine lv_if_ne (tgt := 619) hx hb dL_law_604 (by decide) (fun _ => K) (fun c0 => ?_)
  refine lv_aload_n hx hb dL_law_607 rfl (lv_at hl 5 rfl) ?_
  refine lv_iconst (v := 0) hx hb dL_law_608 (by decide) ?_
  have hPo : va_P D vwCl [(qo, .inl (cL, 1, .inr (.inl (fun _ => o'))))] H := fun k9 x hx => by
    have h0 : k9 < 1 := (List.getElem?_eq_some_iff.mp hx).1
    rw [show k9 = 0 by omega] at hx
    cases hx
    exact hw.2.2.2.2.1
  refine va_lald hx hb hKl hPo 0 0 rfl rfl (show vp_in 0 1 by unfold vp_in; decide) dL_law_609 ?_
  refine lv_iload hx hb dL_law_610 (lv_at hl 0 rfl) ?_
  refine lv_i2l (v := r.1.toInt64) hx hb dL_law_612 rfl ?_
  refine W.lcmp hx hb dL_law_613 ?_
  refine lv_if_eq (tgt := 619) hx hb dL_law_614 (by decide) (fun _ => K) (fun c9 => absurd ?_ c9)
  show lg_cmp o' r.1.toInt64 = 0
  rw [ho' c0]
  exact lg_cmp_self _
