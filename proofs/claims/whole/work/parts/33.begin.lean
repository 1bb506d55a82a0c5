theorem qm_X6_init : qc_mw yX6_init cX6_init 1 (Option.none : Option Jvm.ClassFile.FieldType) 0 := ⟨ww_137, by decide, by decide, by decide +kernel⟩
theorem qm_X7_init : qc_mw yX7_init cX7_init 1 (Option.none : Option Jvm.ClassFile.FieldType) 0 := ⟨ww_1062, by decide, by decide, by decide +kernel⟩
/-! THE LAW'S BEGINNING: the two objects and the row of one long -/
theorem lw_callI {p : Program} {l : Launch} {e : Env} {R : Room} {s : State} {m : MethodId} {args : Array Value} {below : List Frame} {meth : Method} {c : Code} {nL : Nat} {H : Heap} {locs : List Loc} {cells slots : Nat} {Q : State → Prop} {D : va_G} {ca : Nat → ClassId} {ad ad0 : Nat → Nat} {cc : ByteArray} {own : String} {pc : Nat} {la : Array Slot} {rest : List Value} {y : MethodName} {code1 : ByteArray} {maxL : Nat} {rF1 rL1 mc ms idx : Nat} {h h' : qc_Pl} (hx : p.tables.exec = Jvm.exec) (hb : c.code = cc) (hml : c.maxLocals = nL) (hown : s.vm.findClass own = some m.cls) (hts : ∀ w ∈ qc_GW, w.before args s = true) (hG : qc_Gd D ca (fun q => s.heap.size ≤ q) ad0 s)
    (hM : ∀ l, qc_M l y code1 maxL none rF1 rL1 mc ms [.ref 0] h none h') (hcw : Cond.methodLink own idx y ∈ qc_GW ∧ Cond.instanceMethod y ∈ qc_GW ∧ Cond.initialized y.cls ∈ qc_GW) (hmw : qc_mw y code1 maxL none 0) (hyI : y.name = "<init>")
    (hrm : rF1 + 1 ≤ R.frames ∧ 8 + (maxL + 11) + rL1 ≤ R.locals) (hce : cells + mc ≤ R.cells ∧ slots + ms ≤ R.slots) (hsu : (rest.map fun v => v.category).sum ≤ 8)
    (hw : qc_wk D ca (fun q => s.heap.size ≤ q) ad h H) (hro : ∀ i, i < 30 → ad (qc_RO + i) = ad0 (qc_RO + i)) (hS : va_S (fun q => s.heap.size ≤ q) s.heap H locs) (hla : la.size = nL) (hd : decode cc pc = .ok (.invokespecial idx, 3))
    (k : ∀ (ad' : Nat → Nat) (H' : Heap) (locs' : List Loc), qc_wk D ca (fun q => s.heap.size ≤ q) ad' h' H' → (∀ u, ¬ (qc_n h ≤ u ∧ u < qc_n h') → ad' u = ad u) → (∀ u, u < qc_n h' → lw_A1 (qc_n h) ad H (ad' u)) → H.size ≤ H'.size → (∀ q, q < H.size → ¬ lw_A1 (qc_n h) ad H q → H'[q]? = H[q]?) → va_S (fun q => s.heap.size ≤ q) s.heap H' locs' → W p l e R s m args below meth c H' locs' (cells + mc) (slots + ms) Q (F0 m (pc + 3) la rest)) :
    W p l e R s m args below meth c H locs cells slots Q (F0 m pc la (.ref (ad 0) :: rest)) := by
  have hz : s.heap.size ≤ H.size := hS.1
  have hr := va_runI (l := l) (e := e) (R := R) (below := below) (meth := meth) (locs := locs) (cells := cells) (slots := slots) (H := H) (g := F0 m pc la (.ref (ad 0) :: rest)) (rest := rest) (As := []) (b := ad 0) ⟨hx, hb, hml, hown, hts⟩ (hM l D ca (lw_A1 (qc_n h) ad H) ad) (cwI 0 hts (qc_goodIn hmw.1) rfl rfl rfl (hts _ hcw.2.2) (hts _ hcw.1) (hts _ hcw.2.1) hyI hmw.2 ⟨by show rF1 + 1 ≤ R.frames; omega, by show 8 + (maxL + 11) + rL1 ≤ R.locals; omega⟩)
    ⟨qc_blind, fun U hU hW => ⟨rfl, by rw [hU]; exact hw.self, lw_gd hG hw hro hS hU hW⟩⟩ rfl rfl hla rfl (by show 2 * 0 + _ ≤ 8; omega) hd ⟨by omega, by omega⟩
  intro T hT X
  obtain ⟨v, st₀, t, T', L, h0, X', hL, e1, e2, ⟨ad', ⟨hv, hw', hag⟩, hz', hk'⟩, stp⟩ := hr T hT X
  cases hv
  rw [h0] at hz' hk'
  have hA1 : ∀ q, lw_A1 (qc_n h) ad H q → s.heap.size ≤ q := fun q hq => by
    rcases hq with ⟨t, ht, rfl⟩ | hq
    · exact hw.inA ht
    · exact Nat.le_trans hz hq
  obtain ⟨t2, a1, b1⟩ := k ad' T'.heap (locs ++ L) (by rw [e1]; exact ⟨hw'.1, hw'.2.weaken (fun _ _ _ hq => hA1 _ hq)⟩) hag (fun u hu => hw'.inA hu) (by rw [e1]; exact hz') (fun q h1 h2 => by rw [e1]; exact hk' q h1 h2)
    ⟨Nat.le_trans hz (by rw [e1]; exact hz'), fun q h1 h2 => by rw [e1, hk' q (Nat.lt_of_lt_of_le h1 hz) (fun z => h2 (hA1 q z))]; exact hS.2.1 q h1 h2, fun q hq => by
      rcases List.mem_append.mp hq with z | z
      · exact hS.2.2 q z
      · exact hA1 _ (hL q z)⟩ T' rfl X'
  exact ⟨t2, stp t2 a1, b1⟩
theorem lw_nw {ca : Nat → ClassId} {ad0 : Nat → Nat} {q kk : Nat} {K N : Nat → Nat} {C : String} {T : u_T} {M : Nat} {tyf : Nat → FieldType} (hcl : qc_cl kk C T M tyf) (hK : K 0 = kk) : qc_W ca (qc_u ad0 0 q) ((fun _ _ => 0), (fun _ _ => 0), ((fun _ _ => none), K, N, 1)) = [(q, .inr (kk, (List.range M).map (fun j => qc_dv ((qc_fl kk).getD j 0))))] := by
  obtain ⟨h8, hc, hin, hM, hty, hnn⟩ := hcl
  show [(qc_u ad0 0 q 0, qc_E ca (qc_u ad0 0 q) ((fun _ _ => 0), (fun _ _ => 0), ((fun _ _ => none), K, N, 1)) 0)] = _
  have hf : qc_fs (qc_u ad0 0 q) ((fun _ _ => 0), (fun _ _ => 0), ((fun _ _ => none), K, N, 1)) 0 = (List.range M).map (fun j => qc_dv ((qc_fl kk).getD j 0)) := by
    unfold qc_fs
    show (List.range (qc_fl (K 0)).length).map _ = _
    rw [hK, hM]
    refine List.map_congr_left fun j _ => ?_
    show qc_val (qc_u ad0 0 q) ((fun _ _ => 0), (fun _ _ => 0), ((fun _ _ => none), K, N, 1)) 0 j ((qc_fl (K 0)).getD j 0) = _
    rw [hK]
    unfold qc_val qc_dv
    show (match (qc_fl kk).getD j 0 with | 0 => Value.int 0 | 1 => Value.long 0 | _ => va_rf ((none : Option Nat).map (qc_u ad0 0 q))) = _
    rfl
  rw [qc_u_s, qc_E_obj (h := ((fun _ _ => 0), (fun _ _ => 0), ((fun _ _ => none), K, N, 1))) (k := kk) hK h8, hf]
theorem lw_ro {ad0 : Nat → Nat} {q : Nat} : ∀ i, i < 30 → qc_u ad0 0 q (qc_RO + i) = ad0 (qc_RO + i) := fun i _ => qc_u_n _ _ (by unfold qc_RO; omega)
theorem lw_dv {M : Nat} {kk : Nat} {tyf : Nat → FieldType} (hdv : ∀ j, j < M → defaultValue (tyf j) = qc_dv ((qc_fl kk).getD j 0)) : ∀ j, j < M → defaultValue (tyf j) = vp_V ((List.range M).map (fun j => qc_dv ((qc_fl kk).getD j 0))) j := fun j hj => by
  rw [hdv j hj]
  simp [vp_V, hj]
