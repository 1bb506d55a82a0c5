/-! CALLS over pools -/
theorem qc_Gd.calling {D : va_G} {ca : Nat → ClassId} {A : Nat → Prop} {ad : Nat → Nat} {U : State} {g : JFrame} {mk : MethodId} {a : Array Value} (h : qc_Gd D ca A ad U) : qc_Gd D ca A ad (U.calling g mk a) := by
  obtain ⟨h1, h2, h3, h4, h5, h6, ⟨h7, h8, h9⟩, h10⟩ := h
  have hv : U.vm.Alike (U.calling g mk a).vm := Vm.Alike.refl U.vm
  refine ⟨va_K.moved (u := U) (U := U.calling g mk a) hv h1, fun q hq => va_Nw.same rfl rfl (h2 q hq), fun q hq => va_Nw.same rfl rfl (h3 q hq), fun i hi => ⟨(h4 i hi).1.moved (u := U) (U := U.calling g mk a) hv, (h4 i hi).2.moved (u := U) (U := U.calling g mk a) hv⟩, h5, h6.moved hv, ⟨fun i hi => ?_, h8.moved hv, h9.elim (fun z => Or.inl (z.moved hv)) (fun z => Or.inr (z.moved hv))⟩, qc_AOA_moved hv h10⟩
  obtain ⟨⟨g1, g2, g3, g4⟩, g5⟩ := h7 i hi
  exact ⟨⟨g1.moved hv, g2.moved hv, g3.moved hv, g4.moved hv⟩, g5.same rfl⟩
theorem qc_blind {D : va_G} {ca : Nat → ClassId} {A : Nat → Prop} {ad0 : Nat → Nat} {av : List Value} {h : qc_Pl} : FrameBlind (qc_P D ca A ad0 av h) := by
  intro a U g mk q
  obtain ⟨q1, q2, q3⟩ := q
  exact ⟨q1, q2, q3.calling⟩
/-- no reference to a token from a on, below b -/
def qc_tk (a b : Nat) (v : Value) : Bool := match v with
  | .ref t => !(decide (a ≤ t) && decide (t < b))
  | _ => true
def qc_tks (a b : Nat) (l : List Value) : Bool := l.all (qc_tk a b)
def qc_tkl (a b : Nat) (l : List (Option Value)) : Bool := l.all (fun o => match o with
  | some v => qc_tk a b v
  | none => true)
theorem qc_tk_eq {a b : Nat} {v : Value} {ad ad' : Nat → Nat} (h : qc_tk a b v = true) (he : ∀ u, ¬ (a ≤ u ∧ u < b) → ad' u = ad u) : qc_rv ad' v = qc_rv ad v := by
  cases v with
  | ref t =>
    have h9 : ¬ (a ≤ t ∧ t < b) := fun z => by simp [qc_tk, z.1, z.2] at h
    show Value.ref (ad' t) = Value.ref (ad t)
    rw [he t h9]
  | _ => rfl
theorem qc_tks_eq {a b : Nat} {l : List Value} {ad ad' : Nat → Nat} (h : qc_tks a b l = true) (he : ∀ u, ¬ (a ≤ u ∧ u < b) → ad' u = ad u) : l.map (qc_rv ad') = l.map (qc_rv ad) :=
  List.map_congr_left fun v hv => qc_tk_eq (List.all_eq_true.mp h v hv) he
theorem qc_tkl_eq {a b : Nat} {l : List (Option Value)} {ad ad' : Nat → Nat} (h : qc_tkl a b l = true) (he : ∀ u, ¬ (a ≤ u ∧ u < b) → ad' u = ad u) (i : Nat) (v : Value) (hv : l[i]? = some (some v)) : qc_rv ad' v = qc_rv ad v :=
  qc_tk_eq (List.all_eq_true.mp h (some v) (List.mem_of_getElem? hv)) he
theorem qc_tk_nn (a : Nat) (v : Value) : qc_tk a a v = true := by
  cases v with
  | ref t =>
    by_cases hc : a ≤ t
    · simp [qc_tk, hc, Nat.not_lt.mpr hc]
    · simp [qc_tk, hc]
  | _ => rfl
theorem qc_tks_nn (a : Nat) (l : List Value) : qc_tks a a l = true := List.all_eq_true.mpr fun v _ => qc_tk_nn a v
theorem qc_tkl_nn (a : Nat) (l : List (Option Value)) : qc_tkl a a l = true := List.all_eq_true.mpr fun o _ => by
  cases o with
  | none => rfl
  | some v => exact qc_tk_nn a v
theorem qc_cats (ad : Nat → Nat) (st : List Value) : ((st.map (qc_rv ad)).map fun v => v.category).sum = (st.map fun v => v.category).sum := by
  rw [List.map_map]
  congr 1
  exact List.map_congr_left fun v _ => qc_rv_cat ad v
/-- behind a call -/
theorem qc_back {p : Program} {l : Launch} {e : Env} {R : Room} {s : State} {m : MethodId} {args : Array Value} {below : List Frame} {meth : Method} {c : Code} {nL : Nat} {D : va_G} {ca : Nat → ClassId} {A : Nat → Prop} {n0 : Nat} {ad0 : Nat → Nat} {Q : State → Prop} {cells slots mc ms pc : Nat} {ls : List (Option Value)} {st : List Value} {h h' : qc_Pl} {r : Option Value} {ad : Nat → Nat} {H : Heap} {locs : List Loc} {la : Array Slot} {st0 : List Value} {a : Array Value}
    (hr : va_Run p l e R s m args below meth c H locs cells slots mc ms (F0 m pc la st0) (st.map (qc_rv ad)) (qc_Q D ca A ad (qc_n h) r h' a) A) (hS : va_S A s.heap H locs) (ha : ∀ u, ¬ (n0 ≤ u ∧ u < qc_n h) → ad u = ad0 u) (hl : qc_lv la nL ad ls) (hn : n0 ≤ qc_n h ∧ qc_n h ≤ qc_n h') (hls : qc_tkl (qc_n h) (qc_n h') ls = true) (hst : qc_tks (qc_n h) (qc_n h') st = true)
    (k : qc_J (p, l, e, R, s, m, args, below, meth, c, nL, D, ca, A, n0, ad0, Q) (cells + mc) (slots + ms) (pc + 3) ls (r.toList ++ st) h') : W p l e R s m args below meth c H locs cells slots Q (F0 m pc la st0) := by
  intro T hT X
  obtain ⟨v, st₀, t, T', L, h0, X', hL, e1, e2, ⟨ad', ⟨hv, hw', hag⟩, hz, hk⟩, stp⟩ := hr T hT X
  cases hv
  rw [h0] at hz hk
  obtain ⟨t2, a1, b1⟩ := k ad' T'.heap (locs ++ L) la (by rw [e1]; exact hw') ⟨Nat.le_trans hS.1 (by rw [e1]; exact hz), fun q h1 h2 => by rw [e1, hk q (Nat.lt_of_lt_of_le h1 hS.1) h2]; exact hS.2.1 q h1 h2, fun q hq => by
      rcases List.mem_append.mp hq with z | z
      · exact hS.2.2 q z
      · exact hL q z⟩ (fun u hu => by
        by_cases hc : qc_n h ≤ u ∧ u < qc_n h'
        · exact absurd ⟨Nat.le_trans hn.1 hc.1, hc.2⟩ hu
        · rw [hag u hc]
          exact ha u (fun z => hu ⟨z.1, Nat.lt_of_lt_of_le z.2 hn.2⟩)) (hl.mono (fun i v hv => qc_tkl_eq hls hag i v hv)) T' rfl X'
  refine ⟨t2, stp t2 ?_, b1⟩
  have e3 : (r.map (qc_rv ad')).toList ++ st.map (qc_rv ad) = (r.toList ++ st).map (qc_rv ad') := by
    rw [← qc_tks_eq hst hag, List.map_append]
    cases r <;> rfl
  show Steps p.tables e below (T'.setTop (F0 m (pc + 3) la ((r.map (qc_rv ad')).toList ++ st.map (qc_rv ad)))) t2
  rw [e3]
  exact a1
/-- the words of a virtual call, of a static one, of a method -/
def qc_cV (own : String) (idx : Nat) (C : String) (y : MethodName) : Prop := Cond.methodLink own idx y ∈ qc_GW ∧ Cond.instanceMethod y ∈ qc_GW ∧ Cond.selects C y y ∈ qc_GW ∧ Cond.initialized C ∈ qc_GW
def qc_cS (own : String) (idx : Nat) (y : MethodName) : Prop := Cond.methodLink own idx y ∈ qc_GW ∧ Cond.static y ∈ qc_GW ∧ Cond.initialized y.cls ∈ qc_GW
def qc_mw (y : MethodName) (cc : ByteArray) (maxL : Nat) (ret : Option FieldType) (n : Nat) : Prop := Cond.code y cc maxL ret ∈ qc_GW ∧ y.cls ≠ "java/lang/invoke/MethodHandle" ∧ y.cls ≠ "java/lang/invoke/VarHandle" ∧ (parseMethodDescriptor y.desc).map (fun d => d.parameters.length) = some n
theorem qc_goodV {own : String} {idx : Nat} {C : String} {y : MethodName} {cc : ByteArray} {maxL : Nat} {ret : Option FieldType} (hc : qc_cV own idx C y) (hm : Cond.code y cc maxL ret ∈ qc_GW) : GoodIn qc_GW (wsV own idx C y (.code y cc maxL ret :: qc_GW)) := by
  intro w hw
  unfold wsV at hw
  rcases List.mem_append.mp hw with h | h
  · have h9 : w ∈ qc_GW := by
      simp only [List.mem_cons, List.not_mem_nil, or_false] at h
      rcases h with rfl | rfl | rfl | rfl
      · exact hc.1
      · exact hc.2.1
      · exact hc.2.2.1
      · exact hc.2.2.2
    exact ⟨h9, good_of_word (qc_good _ h9)⟩
  · exact qc_goodIn hm w h
theorem qc_goodS {own : String} {idx : Nat} {y : MethodName} {cc : ByteArray} {maxL : Nat} {ret : Option FieldType} (hc : qc_cS own idx y) (hm : Cond.code y cc maxL ret ∈ qc_GW) : GoodIn qc_GW (va_wsS own idx y (.code y cc maxL ret :: qc_GW)) := by
  intro w hw
  unfold va_wsS at hw
  rcases List.mem_append.mp hw with h | h
  · have h9 : w ∈ qc_GW := by
      simp only [List.mem_cons, List.not_mem_nil, or_false] at h
      rcases h with rfl | rfl | rfl
      · exact hc.1
      · exact hc.2.1
      · exact hc.2.2
    exact ⟨h9, good_of_word (qc_good _ h9)⟩
  · exact qc_goodIn hm w h
section QCALL
variable {F : qc_F} {cc : ByteArray} {own nm : String} {rF rC rS rL cells slots pc : Nat} {ls : List (Option Value)} {st st0 : List Value} {h h' : qc_Pl} {y : MethodName} {code1 : ByteArray} {maxL : Nat} {ret : Option FieldType} {rF1 rL1 mc ms n idx t kk N : Nat} {C : String} {T : u_T} {tyf : Nat → FieldType} {As : List Value} {r : Option Value}
theorem qj_callVg (cx : qc_X F cc own nm rF rC rS rL) (hd : decode cc pc = .ok (.invokevirtual idx, 3)) (hM : ∀ l, qc_M l y code1 maxL ret rF1 rL1 mc ms (.ref t :: As) h r h') (hcw : qc_cV own idx C y) (hmw : qc_mw y code1 maxL ret n) (hyC : y.cls = C) (hA : As.length = n) (hcl : qc_cl kk C T N tyf) (hk : qc_K h t = kk) (ht : t < qc_n h) (hrm : rF1 + 1 ≤ rF ∧ 8 + (maxL + 11) + rL1 ≤ rL) (hce : cells + mc ≤ rC ∧ slots + ms ≤ rS) (hs0 : st0 = As.reverse ++ .ref t :: st) (hsu : (st.map fun v => v.category).sum ≤ 8) (hRO : qc_n h ≤ qc_RO) (hn0 : F.2.2.2.2.2.2.2.2.2.2.2.2.2.2.1 ≤ qc_n h) (hnn : qc_n h ≤ qc_n h') (hls : qc_tkl (qc_n h) (qc_n h') ls = true) (hst : qc_tks (qc_n h) (qc_n h') st = true)
    (k : qc_J F (cells + mc) (slots + ms) (pc + 3) ls (r.toList ++ st) h') : qc_J F cells slots pc ls st0 h := by
  obtain ⟨p, l, e, R, s, m, args, below, meth, c, nL, D, ca, A, n0, ad0, Q⟩ := F
  obtain ⟨hx, hb, hml, hown, hts, hlocks, hG, hroom, hnm⟩ := cx
  obtain ⟨h8, hc, -⟩ := hcl
  subst hs0
  intro ad H locs la hw hS ha hl
  have hrecv := va_recv hG.1 hw.1 hc ((qc_W_at ht).trans (by rw [qc_E_obj hk h8]))
  have hr := va_runV (l := l) (e := e) (R := R) (below := below) (meth := meth) (locs := locs) (cells := cells) (slots := slots) (g := F0 m pc la ((As.reverse ++ .ref t :: st).map (qc_rv ad))) (rest := st.map (qc_rv ad)) (As := As.map (qc_rv ad)) (b := ad t) ⟨hx, hb, hml, hown, hts⟩ (hM l D ca A ad) (cwV n hts (qc_goodV hcw hmw.1) rfl rfl rfl ⟨hyC, hmw.2⟩ ⟨by show rF1 + 1 ≤ R.frames; omega, by show 8 + (maxL + 11) + rL1 ≤ R.locals; omega⟩)
    ⟨qc_blind, hrecv, fun U hU hW => ⟨rfl, by rw [hU]; exact hw, hG.next hW (by rw [hU]; exact hS.1) (fun q h1 h2 => by rw [hU]; exact hS.2.1 q h1 h2) (fun i hi => ha _ (by omega))⟩⟩ rfl (by rw [List.length_map]; exact hA) hl.1 (by show List.map _ _ = _; rw [List.map_append, List.map_reverse]; rfl) (by show 2 * 0 + _ ≤ 8; rw [qc_cats]; omega) hd ⟨by omega, by omega⟩
  exact qc_back hr hS ha hl ⟨hn0, hnn⟩ hls hst k
theorem qj_callV (cx : qc_X F cc own nm rF rC rS rL) (hd : decode cc pc = .ok (.invokevirtual idx, 3)) (hM : ∀ l, qc_M l y code1 maxL ret rF1 rL1 mc ms (.ref t :: As) h r h') (hcw : qc_cV own idx C y) (hmw : qc_mw y code1 maxL ret n) (hyC : y.cls = C) (hA : As.length = n) (hcl : qc_cl kk C T N tyf) (hk : qc_K h t = kk) (ht : t < qc_n h) (hrm : rF1 + 1 ≤ rF ∧ 8 + (maxL + 11) + rL1 ≤ rL) (hce : cells + mc ≤ rC ∧ slots + ms ≤ rS) (hs0 : st0 = As.reverse ++ .ref t :: st) (hsu : (st.map fun v => v.category).sum ≤ 8) (hRO : qc_n h ≤ qc_RO) (hn0 : F.2.2.2.2.2.2.2.2.2.2.2.2.2.2.1 ≤ qc_n h) (hnn : qc_n h' = qc_n h)
    (k : qc_J F (cells + mc) (slots + ms) (pc + 3) ls (r.toList ++ st) h') : qc_J F cells slots pc ls st0 h :=
  qj_callVg cx hd hM hcw hmw hyC hA hcl hk ht hrm hce hs0 hsu hRO hn0 (Nat.le_of_eq hnn.symm) (by rw [hnn]; exact qc_tkl_nn _ _) (by rw [hnn]; exact qc_tks_nn _ _) k
theorem qj_callS (cx : qc_X F cc own nm rF rC rS rL) (hd : decode cc pc = .ok (.invokestatic idx, 3)) (hM : ∀ l, qc_M l y code1 maxL ret rF1 rL1 mc ms As h r h') (hcw : qc_cS own idx y) (hmw : qc_mw y code1 maxL ret n) (hA : As.length = n) (hrm : rF1 + 1 ≤ rF ∧ 8 + (maxL + 11) + rL1 ≤ rL) (hce : cells + mc ≤ rC ∧ slots + ms ≤ rS) (hs0 : st0 = As.reverse ++ st) (hsu : (st.map fun v => v.category).sum ≤ 8) (hRO : qc_n h ≤ qc_RO) (hn0 : F.2.2.2.2.2.2.2.2.2.2.2.2.2.2.1 ≤ qc_n h) (hnn : qc_n h' = qc_n h)
    (k : qc_J F (cells + mc) (slots + ms) (pc + 3) ls (r.toList ++ st) h') : qc_J F cells slots pc ls st0 h := by
  obtain ⟨p, l, e, R, s, m, args, below, meth, c, nL, D, ca, A, n0, ad0, Q⟩ := F
  obtain ⟨hx, hb, hml, hown, hts, hlocks, hG, hroom, hnm⟩ := cx
  subst hs0
  intro ad H locs la hw hS ha hl
  have hr := va_runS (l := l) (e := e) (R := R) (below := below) (meth := meth) (locs := locs) (cells := cells) (slots := slots) (H := H) (g := F0 m pc la ((As.reverse ++ st).map (qc_rv ad))) (rest := st.map (qc_rv ad)) (As := As.map (qc_rv ad)) ⟨hx, hb, hml, hown, hts⟩ (hM l D ca A ad) (va_cwS n hts (qc_goodS hcw hmw.1) rfl rfl rfl hmw.2 ⟨by show rF1 + 1 ≤ R.frames; omega, by show 8 + (maxL + 11) + rL1 ≤ R.locals; omega⟩)
    ⟨qc_blind, fun U hU hW => ⟨rfl, by rw [hU]; exact hw, hG.next hW (by rw [hU]; exact hS.1) (fun q h1 h2 => by rw [hU]; exact hS.2.1 q h1 h2) (fun i hi => ha _ (by omega))⟩⟩ rfl (by rw [List.length_map]; exact hA) hl.1 (by show List.map _ _ = _; rw [List.map_append, List.map_reverse]) (by show 2 * 0 + _ ≤ 8; rw [qc_cats]; omega) hd ⟨by omega, by omega⟩
  exact qc_back hr hS ha hl ⟨hn0, Nat.le_of_eq hnn.symm⟩ (by rw [hnn]; exact qc_tkl_nn _ _) (by rw [hnn]; exact qc_tks_nn _ _) k
theorem qj_callI (cx : qc_X F cc own nm rF rC rS rL) (hd : decode cc pc = .ok (.invokespecial idx, 3)) (hM : ∀ l, qc_M l y code1 maxL none rF1 rL1 mc ms (.ref t :: As) h none h') (hcw : Cond.methodLink own idx y ∈ qc_GW ∧ Cond.instanceMethod y ∈ qc_GW ∧ Cond.initialized y.cls ∈ qc_GW) (hmw : qc_mw y code1 maxL none n) (hyI : y.name = "<init>") (hA : As.length = n) (hrm : rF1 + 1 ≤ rF ∧ 8 + (maxL + 11) + rL1 ≤ rL) (hce : cells + mc ≤ rC ∧ slots + ms ≤ rS) (hs0 : st0 = As.reverse ++ .ref t :: st) (hsu : (st.map fun v => v.category).sum ≤ 8) (hRO : qc_n h ≤ qc_RO) (hn0 : F.2.2.2.2.2.2.2.2.2.2.2.2.2.2.1 ≤ qc_n h) (hnn : qc_n h ≤ qc_n h') (hls : qc_tkl (qc_n h) (qc_n h') ls = true) (hst : qc_tks (qc_n h) (qc_n h') st = true)
    (k : qc_J F (cells + mc) (slots + ms) (pc + 3) ls st h') : qc_J F cells slots pc ls st0 h := by
  obtain ⟨p, l, e, R, s, m, args, below, meth, c, nL, D, ca, A, n0, ad0, Q⟩ := F
  obtain ⟨hx, hb, hml, hown, hts, hlocks, hG, hroom, hnm⟩ := cx
  subst hs0
  intro ad H locs la hw hS ha hl
  have hr := va_runI (l := l) (e := e) (R := R) (below := below) (meth := meth) (locs := locs) (cells := cells) (slots := slots) (H := H) (g := F0 m pc la ((As.reverse ++ .ref t :: st).map (qc_rv ad))) (rest := st.map (qc_rv ad)) (As := As.map (qc_rv ad)) (b := ad t) ⟨hx, hb, hml, hown, hts⟩ (hM l D ca A ad) (cwI n hts (qc_goodIn hmw.1) rfl rfl rfl (hts _ hcw.2.2) (hts _ hcw.1) (hts _ hcw.2.1) hyI hmw.2 ⟨by show rF1 + 1 ≤ R.frames; omega, by show 8 + (maxL + 11) + rL1 ≤ R.locals; omega⟩)
    ⟨qc_blind, fun U hU hW => ⟨rfl, by rw [hU]; exact hw, hG.next hW (by rw [hU]; exact hS.1) (fun q h1 h2 => by rw [hU]; exact hS.2.1 q h1 h2) (fun i hi => ha _ (by omega))⟩⟩ rfl (by rw [List.length_map]; exact hA) hl.1 (by show List.map _ _ = _; rw [List.map_append, List.map_reverse]; rfl) (by show 2 * 0 + _ ≤ 8; rw [qc_cats]; omega) hd ⟨by omega, by omega⟩
  exact qc_back (r := none) hr hS ha hl ⟨hn0, hnn⟩ hls hst k
theorem qj_callIN {host : String} (cx : qc_X F cc own nm rF rC rS rL) (hd : decode cc pc = .ok (.invokespecial idx, 3)) (hM : ∀ l, qc_M l y code1 maxL none rF1 rL1 mc ms (.ref t :: As) h none h') (hcw : (own, idx, y, host) ∈ qc_mn ∧ Cond.instanceMethod y ∈ qc_GW ∧ Cond.initialized y.cls ∈ qc_GW) (hmw : qc_mw y code1 maxL none n) (hyI : y.name = "<init>") (hA : As.length = n) (hrm : rF1 + 1 ≤ rF ∧ 8 + (maxL + 11) + rL1 ≤ rL) (hce : cells + mc ≤ rC ∧ slots + ms ≤ rS) (hs0 : st0 = As.reverse ++ .ref t :: st) (hsu : (st.map fun v => v.category).sum ≤ 8) (hRO : qc_n h ≤ qc_RO) (hn0 : F.2.2.2.2.2.2.2.2.2.2.2.2.2.2.1 ≤ qc_n h) (hnn : qc_n h ≤ qc_n h') (hls : qc_tkl (qc_n h) (qc_n h') ls = true) (hst : qc_tks (qc_n h) (qc_n h') st = true)
    (k : qc_J F (cells + mc) (slots + ms) (pc + 3) ls st h') : qc_J F cells slots pc ls st0 h := by
  obtain ⟨p, l, e, R, s, m, args, below, meth, c, nL, D, ca, A, n0, ad0, Q⟩ := F
  obtain ⟨hx, hb, hml, hown, hts, hlocks, hG, hroom, hnm⟩ := cx
  subst hs0
  intro ad H locs la hw hS ha hl
  have hr := va_runIN (l := l) (e := e) (R := R) (below := below) (meth := meth) (locs := locs) (cells := cells) (slots := slots) (H := H) (host := host) (g := F0 m pc la ((As.reverse ++ .ref t :: st).map (qc_rv ad))) (rest := st.map (qc_rv ad)) (As := As.map (qc_rv ad)) (b := ad t) ⟨hx, hb, hml, hown, hts⟩ (hM l D ca A ad) ⟨va_cnB n hts (qc_goodIn hmw.1) rfl rfl rfl (hG.2.2.1 _ hcw.1) (hts _ hcw.2.2) hmw.2 ⟨by show rF1 + 1 ≤ R.frames; omega, by show 8 + (maxL + 11) + rL1 ≤ R.locals; omega⟩, hyI, hts _ hcw.2.1⟩
    ⟨qc_blind, fun U hU hW => ⟨rfl, by rw [hU]; exact hw, hG.next hW (by rw [hU]; exact hS.1) (fun q h1 h2 => by rw [hU]; exact hS.2.1 q h1 h2) (fun i hi => ha _ (by omega))⟩⟩ rfl (by rw [List.length_map]; exact hA) hl.1 (by show List.map _ _ = _; rw [List.map_append, List.map_reverse]; rfl) (by show 2 * 0 + _ ≤ 8; rw [qc_cats]; omega) hd ⟨by omega, by omega⟩
  exact qc_back (r := none) hr hS ha hl ⟨hn0, hnn⟩ hls hst k
end QCALL
