/-! THE LAW'S WORLD: the pool of the class and the pool of the reference side by side, and a row of one long -/
theorem qc_Gd.narrow {D : va_G} {ca : Nat → ClassId} {A B : Nat → Prop} {ad : Nat → Nat} {U : State} (h : qc_Gd D ca A ad U) (hAB : ∀ q, B q → A q) (h5 : ∀ q : Nat, U.heap.size ≤ q → B q) : qc_Gd D ca B ad U := by
  obtain ⟨h1, h2, h3, h4, -, h6, ⟨h7, h8, h9⟩, h10⟩ := h
  refine ⟨h1, h2, h3, fun i hi => ⟨(h4 i hi).1.narrow hAB, (h4 i hi).2.narrow hAB⟩, h5, h6, ⟨fun i hi => ?_, h8.narrow hAB, ?_⟩, h10⟩
  · obtain ⟨⟨g1, g2, g3, g4⟩, g5⟩ := h7 i hi
    exact ⟨⟨g1.narrow hAB, g2.narrow hAB, g3.narrow hAB, g4.narrow hAB⟩, g5⟩
  · exact h9.elim (fun z => Or.inl (z.narrow hAB)) (fun z => Or.inr (z.narrow hAB))
/-- what a call on a pool may change -/
def lw_A1 (n : Nat) (ad : Nat → Nat) (H : Heap) : Nat → Prop := fun q => (∃ t, t < n ∧ q = ad t) ∨ H.size ≤ q
theorem qc_wk.lt {D : va_G} {ca : Nat → ClassId} {A : Nat → Prop} {ad : Nat → Nat} {h : qc_Pl} {H : Heap} (hw : qc_wk D ca A ad h H) {t : Nat} (ht : t < qc_n h) : ad t < H.size := (hw.1 t _ (qc_W_at ht)).lt
theorem qc_wk.inA {D : va_G} {ca : Nat → ClassId} {A : Nat → Prop} {ad : Nat → Nat} {h : qc_Pl} {H : Heap} (hw : qc_wk D ca A ad h H) {t : Nat} (ht : t < qc_n h) : A (ad t) := hw.2.2 t _ (qc_W_at ht)
theorem qc_wk.get {D : va_G} {ca : Nat → ClassId} {ad : Nat → Nat} {h : qc_Pl} {i : Nat} {q : Nat × va_E} (hq : (qc_W ca ad h)[i]? = some q) : i < qc_n h ∧ q = (ad i, qc_E ca ad h i) := by
  by_cases hi : i < qc_n h
  · rw [qc_W_at hi] at hq
    exact ⟨hi, (Option.some.inj hq).symm⟩
  · rw [qc_W_none hi] at hq
    cases hq
theorem qc_wk.self {D : va_G} {ca : Nat → ClassId} {A : Nat → Prop} {ad : Nat → Nat} {h : qc_Pl} {H : Heap} (hw : qc_wk D ca A ad h H) : qc_wk D ca (lw_A1 (qc_n h) ad H) ad h H := ⟨hw.1, hw.2.1, fun i q hq => by
  obtain ⟨hi, rfl⟩ := qc_wk.get (D := D) hq
  exact Or.inl ⟨i, hi, rfl⟩⟩
theorem qc_wk.kept {D : va_G} {ca : Nat → ClassId} {A : Nat → Prop} {ad : Nat → Nat} {h : qc_Pl} {H H1 : Heap} (hw : qc_wk D ca A ad h H) (hk : ∀ t, t < qc_n h → H1[ad t]? = H[ad t]?) : qc_wk D ca A ad h H1 := ⟨hw.1.kept (fun i q hq => by
  obtain ⟨hi, rfl⟩ := qc_wk.get (D := D) hq
  exact hk i hi), hw.2⟩
section LWC
variable {p : Program} {l : Launch} {e : Env} {R : Room} {s : State} {m : MethodId} {args : Array Value} {below : List Frame} {meth : Method} {c : Code} {nL : Nat} {H : Heap} {locs : List Loc} {cells slots : Nat} {Q : State → Prop} {D : va_G} {ca : Nat → ClassId} {ad ad0 : Nat → Nat} {cc : ByteArray} {own : String} {pc : Nat} {la : Array Slot} {rest : List Value} {y : MethodName} {code1 : ByteArray} {maxL : Nat} {ret : Option FieldType} {rF1 rL1 mc ms n idx kk N : Nat} {C : String} {T : u_T} {tyf : Nat → FieldType} {As : List Value} {r : Option Value} {h h' : qc_Pl}
theorem lw_gd (hG : qc_Gd D ca (fun q => s.heap.size ≤ q) ad0 s) (hw : qc_wk D ca (fun q => s.heap.size ≤ q) ad h H) (hro : ∀ i, i < 30 → ad (qc_RO + i) = ad0 (qc_RO + i)) (hS : va_S (fun q => s.heap.size ≤ q) s.heap H locs) {U : State} (hU : U.heap = H) (hW : s.WarmedH U.vm) : qc_Gd D ca (lw_A1 (qc_n h) ad H) ad U := by
  have hz : s.heap.size ≤ H.size := hS.1
  refine (hG.next hW (by rw [hU]; exact hS.1) (fun q h1 h2 => by rw [hU]; exact hS.2.1 q h1 h2) hro).narrow (fun q hq => ?_) (fun q hq => Or.inr (by rw [hU] at hq; exact hq))
  rcases hq with ⟨t, ht, rfl⟩ | hq
  · exact hw.inA ht
  · exact Nat.le_trans hz hq
theorem lw_call (hx : p.tables.exec = Jvm.exec) (hb : c.code = cc) (hml : c.maxLocals = nL) (hown : s.vm.findClass own = some m.cls) (hts : ∀ w ∈ qc_GW, w.before args s = true) (hG : qc_Gd D ca (fun q => s.heap.size ≤ q) ad0 s)
    (hM : ∀ l, qc_M l y code1 maxL ret rF1 rL1 mc ms (.ref 0 :: As) h r h') (hcw : qc_cV own idx C y) (hmw : qc_mw y code1 maxL ret n) (hyC : y.cls = C) (hA : As.length = n) (hcl : qc_cl kk C T N tyf) (hk : qc_K h 0 = kk) (ht : 0 < qc_n h) (hAs : ∀ f, As.map (qc_rv f) = As)
    (hrm : rF1 + 1 ≤ R.frames ∧ 8 + (maxL + 11) + rL1 ≤ R.locals) (hce : cells + mc ≤ R.cells ∧ slots + ms ≤ R.slots) (hsu : (rest.map fun v => v.category).sum ≤ 8)
    (hw : qc_wk D ca (fun q => s.heap.size ≤ q) ad h H) (hro : ∀ i, i < 30 → ad (qc_RO + i) = ad0 (qc_RO + i)) (hS : va_S (fun q => s.heap.size ≤ q) s.heap H locs) (hla : la.size = nL) (hd : decode cc pc = .ok (.invokevirtual idx, 3))
    (k : ∀ (ad' : Nat → Nat) (H' : Heap) (locs' : List Loc), qc_wk D ca (fun q => s.heap.size ≤ q) ad' h' H' → (∀ u, ¬ (qc_n h ≤ u ∧ u < qc_n h') → ad' u = ad u) → (∀ u, u < qc_n h' → lw_A1 (qc_n h) ad H (ad' u)) → H.size ≤ H'.size → (∀ q, q < H.size → ¬ lw_A1 (qc_n h) ad H q → H'[q]? = H[q]?) → va_S (fun q => s.heap.size ≤ q) s.heap H' locs' → W p l e R s m args below meth c H' locs' (cells + mc) (slots + ms) Q (F0 m (pc + 3) la ((r.map (qc_rv ad')).toList ++ rest))) :
    W p l e R s m args below meth c H locs cells slots Q (F0 m pc la (As.reverse ++ .ref (ad 0) :: rest)) := by
  obtain ⟨h8, hc, -⟩ := hcl
  have hz : s.heap.size ≤ H.size := hS.1
  have hrecv := va_recv hG.1 hw.1 hc ((qc_W_at ht).trans (by rw [qc_E_obj hk h8]))
  have hr := va_runV (l := l) (e := e) (R := R) (below := below) (meth := meth) (locs := locs) (cells := cells) (slots := slots) (g := F0 m pc la (As.reverse ++ .ref (ad 0) :: rest)) (rest := rest) (As := As) (b := ad 0) ⟨hx, hb, hml, hown, hts⟩ (hM l D ca (lw_A1 (qc_n h) ad H) ad) (cwV n hts (qc_goodV hcw hmw.1) rfl rfl rfl ⟨hyC, hmw.2⟩ ⟨by show rF1 + 1 ≤ R.frames; omega, by show 8 + (maxL + 11) + rL1 ≤ R.locals; omega⟩)
    ⟨qc_blind, hrecv, fun U hU hW => ⟨by rw [List.map_cons, hAs]; rfl, by rw [hU]; exact hw.self, lw_gd hG hw hro hS hU hW⟩⟩ rfl hA hla rfl (by show 2 * 0 + _ ≤ 8; omega) hd ⟨by omega, by omega⟩
  intro T hT X
  obtain ⟨v, st₀, t, T', L, h0, X', hL, e1, e2, ⟨ad', ⟨hv, hw', hag⟩, hz', hk'⟩, stp⟩ := hr T hT X
  cases hv
  rw [h0] at hz' hk'
  have hA1 : ∀ q, lw_A1 (qc_n h) ad H q → s.heap.size ≤ q := fun q hq => by
    rcases hq with ⟨t, ht, rfl⟩ | hq
    · exact hw.inA ht
    · exact Nat.le_trans hz hq
  obtain ⟨t2, a1, b1⟩ := k ad' T'.heap (locs ++ L) (by rw [e1]; exact ⟨hw'.1, hw'.2.weaken (fun _ _ _ hq => hA1 _ hq)⟩) hag (fun u hu => hw'.inA hu) (by rw [e1]; exact hz') (fun q h1 h2 => by rw [e1]; exact hk' q h1 h2)
    ⟨Nat.le_trans hz (by rw [e1]; exact hz'), fun q h1 h2 => by rw [e1, hk' q (Nat.lt_of_lt_of_le h1 hz) (fun z => h2 (hA1 q z))]; exact hS.2.1 q h1 h2, fun q hq => by
      rcases List.mem_append.mp hq with z | z
      · exact hS.2.2 q z
      · exact hA1 _ (hL q z)⟩ T' rfl X'
  exact ⟨t2, stp t2 a1, b1⟩
end LWC
/-- two pools apart, and the long -/
def lw_w (D : va_G) (ca : Nat → ClassId) (z : Nat) (ad0 adX adM : Nat → Nat) (hX hM : qc_Pl) (qo : Nat) (cL : ClassId) (o : Int64) (H : Heap) : Prop :=
  qc_wk D ca (fun q => z ≤ q) adX hX H ∧ qc_wk D ca (fun q => z ≤ q) adM hM H ∧ (∀ t u, t < qc_n hX → u < qc_n hM → adX t ≠ adM u) ∧ ((∀ t, t < qc_n hX → adX t ≠ qo) ∧ (∀ u, u < qc_n hM → adM u ≠ qo)) ∧ H[qo]? = some (arrV cL 1 (fun _ => .long o)) ∧ z ≤ qo ∧ (∀ i, i < 30 → adX (qc_RO + i) = ad0 (qc_RO + i)) ∧ (∀ i, i < 30 → adM (qc_RO + i) = ad0 (qc_RO + i))
theorem lw_w.swap {D : va_G} {ca : Nat → ClassId} {z : Nat} {ad0 adX adM : Nat → Nat} {hX hM : qc_Pl} {qo : Nat} {cL : ClassId} {o : Int64} {H : Heap} (h : lw_w D ca z ad0 adX adM hX hM qo cL o H) : lw_w D ca z ad0 adM adX hM hX qo cL o H := by
  obtain ⟨h1, h2, h3, ⟨h4, h5⟩, h6, h7, h8, h9⟩ := h
  exact ⟨h2, h1, fun t u ht hu e => h3 u t hu ht e.symm, ⟨h5, h4⟩, h6, h7, h9, h8⟩
theorem lw_w.step {D : va_G} {ca : Nat → ClassId} {z : Nat} {ad0 adX adM adX' : Nat → Nat} {hX hM hX' : qc_Pl} {qo : Nat} {cL : ClassId} {o : Int64} {H H' : Heap} (h : lw_w D ca z ad0 adX adM hX hM qo cL o H) (hn : qc_n hX ≤ qc_n hX' ∧ qc_n hX' ≤ qc_RO)
    (hw' : qc_wk D ca (fun q => z ≤ q) adX' hX' H') (hag : ∀ u, ¬ (qc_n hX ≤ u ∧ u < qc_n hX') → adX' u = adX u) (hin : ∀ u, u < qc_n hX' → lw_A1 (qc_n hX) adX H (adX' u)) (hk : ∀ q, q < H.size → ¬ lw_A1 (qc_n hX) adX H q → H'[q]? = H[q]?) : lw_w D ca z ad0 adX' adM hX' hM qo cL o H' := by
  obtain ⟨h1, h2, h3, ⟨h4, h5⟩, h6, h7, h8, h9⟩ := h
  have hM1 : ∀ u, u < qc_n hM → ¬ lw_A1 (qc_n hX) adX H (adM u) := fun u hu hq => by
    rcases hq with ⟨t, ht, e⟩ | hq
    · exact h3 t u ht hu e.symm
    · have := h2.lt hu
      omega
  have hqo : qo < H.size := (Array.getElem?_eq_some_iff.mp h6).1
  have hQ1 : ¬ lw_A1 (qc_n hX) adX H qo := fun hq => by
    rcases hq with ⟨t, ht, e⟩ | hq
    · exact h4 t ht e.symm
    · omega
  refine ⟨hw', h2.kept (fun t ht => hk _ (h2.lt ht) (hM1 t ht)), fun t u ht hu e => hM1 u hu (e ▸ hin t ht), ⟨fun t ht e => hQ1 (e ▸ hin t ht), h5⟩, by rw [hk qo hqo hQ1]; exact h6, h7, fun i hi => ?_, h9⟩
  rw [hag _ (by omega)]
  exact h8 i hi
