theorem gc_RL_26 : qc_cV RL 26 RX6 yX6_text := ⟨ww_372, ww_373, ww_374, ww_112⟩
theorem gc_RL_30 : qc_cV RL 30 RX7 yX7_text := ⟨ww_1240, ww_1241, ww_1242, ww_118⟩
theorem qm_X6_text : qc_mw yX6_text cX6_text 3 (Option.some Jvm.ClassFile.FieldType.int) 1 := ⟨ww_375, by decide, by decide, by decide +kernel⟩
theorem qm_X7_text : qc_mw yX7_text cX7_text 2 (Option.some Jvm.ClassFile.FieldType.int) 1 := ⟨ww_1243, by decide, by decide, by decide +kernel⟩
/-! THE LAW'S case 1: text makes a reader and a new scene; then the tokens are told anew -/
theorem qc_wk.re {D : va_G} {ca : Nat → ClassId} {A : Nat → Prop} {ad ad' : Nat → Nat} {h h' : qc_Pl} {H : Heap} (hw : qc_wk D ca A ad h H) (σ : Nat → Nat) (hσ : ∀ t, t < qc_n h' → σ t < qc_n h) (hinj : ∀ t u, t < qc_n h' → u < qc_n h' → σ t = σ u → t = u) (had : ∀ t, t < qc_n h' → ad' t = ad (σ t)) (hE : ∀ t, t < qc_n h' → qc_E ca ad' h' t = qc_E ca ad h (σ t)) : qc_wk D ca A ad' h' H := by
  refine ⟨fun i q hq => ?_, fun i j x y hi hj e => ?_, fun i q hq => ?_⟩
  · obtain ⟨hi, rfl⟩ := qc_wk.get (D := D) hq
    rw [had i hi, hE i hi]
    exact hw.1 (σ i) _ (qc_W_at (hσ i hi))
  · obtain ⟨hi9, rfl⟩ := qc_wk.get (D := D) hi
    obtain ⟨hj9, rfl⟩ := qc_wk.get (D := D) hj
    have e : ad' i = ad' j := e
    rw [had i hi9, had j hj9] at e
    exact hinj i j hi9 hj9 (hw.2.1 (σ i) (σ j) _ _ (qc_W_at (hσ i hi9)) (qc_W_at (hσ j hj9)) e)
  · obtain ⟨hi, rfl⟩ := qc_wk.get (D := D) hq
    show A (ad' i)
    rw [had i hi]
    exact hw.inA (hσ i hi)
theorem lw_w.re {D : va_G} {ca : Nat → ClassId} {z : Nat} {ad0 adX adM adY : Nat → Nat} {hX hM hY : qc_Pl} {qo : Nat} {cL : ClassId} {o : Int64} {H : Heap} (h : lw_w D ca z ad0 adX adM hX hM qo cL o H) (σ : Nat → Nat) (hσ : ∀ t, t < qc_n hY → σ t < qc_n hX) (hinj : ∀ t u, t < qc_n hY → u < qc_n hY → σ t = σ u → t = u) (had : ∀ t, adY t = adX (σ t)) (hro : ∀ i, i < 30 → σ (qc_RO + i) = qc_RO + i) (hE : ∀ t, t < qc_n hY → qc_E ca adY hY t = qc_E ca adX hX (σ t)) : lw_w D ca z ad0 adY adM hY hM qo cL o H := by
  obtain ⟨h1, h2, h3, ⟨h4, h5⟩, h6, h7, h8, h9⟩ := h
  exact ⟨h1.re σ hσ hinj (fun t _ => had t) hE, h2, fun t u ht hu => by rw [had]; exact h3 _ u (hσ t ht) hu, ⟨fun t ht => by rw [had]; exact h4 _ (hσ t ht), h5⟩, h6, h7, fun i hi => by rw [had, hro i hi]; exact h8 i hi, h9⟩
def sg (t : Nat) : Nat := if 2 ≤ t ∧ t ≤ 11 then t + 120 else t
theorem sg_o {t : Nat} (h : 12 ≤ t) : sg t = t := if_neg (by omega)
theorem sg_lt : ∀ t, t < 121 → sg t < 132 := fun t h => by unfold sg; split <;> omega
theorem sg_inj : ∀ t u, t < 121 → u < 121 → sg t = sg u → t = u := fun t u h1 h2 h => by
  unfold sg at h
  split at h <;> split at h <;> omega
theorem sg_KN : ∀ t, t < 121 → kX (sg t) = kX t ∧ nX (sg t) = nX t := by decide +kernel
theorem sg_dec : ∀ t, t < 121 → t ≠ 36 → ∀ j, j < 20 → ((rXl.getD t []).getD j none).map sg = if sg t = 0 ∧ j = 4 then some 122 else (rXl.getD (sg t) []).getD j none := by decide +kernel
theorem sg_len : ∀ t, t < 132 → (rXl.getD t []).length ≤ 20 := by decide +kernel
theorem sg_R {w : Nat → Nat} (hw : ∀ j, 12 ≤ w j) : ∀ t, t < 121 → ∀ j, (rX w t j).map sg = qc_u2 (rX w) 0 4 (some 122) (sg t) j := by
  intro t ht j
  by_cases h36 : t = 36
  · subst h36
    have e1 : sg 36 = 36 := rfl
    rw [e1]
    show (rX w 36 j).map sg = rX w 36 j
    unfold rX
    rw [if_pos rfl]
    show some (sg (w j)) = some (w j)
    rw [sg_o (hw j)]
  · have hs : sg t ≠ 36 := by unfold sg; split <;> omega
    have e2 : qc_u2 (rX w) 0 4 (some 122) (sg t) j = if sg t = 0 ∧ j = 4 then some 122 else (rXl.getD (sg t) []).getD j none := by
      unfold qc_u2 qc_u
      by_cases h0 : sg t = 0
      · rw [if_pos h0]
        by_cases h4 : j = 4
        · rw [if_pos h4, if_pos ⟨h0, h4⟩]
        · rw [if_neg h4, if_neg (fun z => h4 z.2), h0]
          rfl
      · rw [if_neg h0, if_neg (fun z => h0 z.1)]
        unfold rX
        rw [if_neg hs]
    have e3 : rX w t j = (rXl.getD t []).getD j none := by
      unfold rX
      rw [if_neg h36]
    rw [e2, e3]
    by_cases hj : j < 20
    · exact sg_dec t ht h36 j hj
    · have l1 := sg_len t (by omega)
      have l2 := sg_len (sg t) (sg_lt t ht)
      have n1 : (rXl.getD t []).getD j none = none := by
        rw [List.getD_eq_getElem?_getD, List.getElem?_eq_none (by omega)]
        rfl
      have n2 : (rXl.getD (sg t) []).getD j none = none := by
        rw [List.getD_eq_getElem?_getD, List.getElem?_eq_none (by omega)]
        rfl
      rw [n1, n2, if_neg (fun z => by omega)]
      rfl
theorem sg_E {ca : Nat → ClassId} {ad : Nat → Nat} {I : Nat → Nat → Int32} {J : Nat → Nat → Int64} {w : Nat → Nat} (hw : ∀ j, 12 ≤ w j) : ∀ t, t < 121 → qc_E ca (fun u => ad (sg u)) (fun t => I (sg t), fun t => J (sg t), (rX w, kX, nX, 121)) t = qc_E ca ad (I, J, (qc_u2 (rX w) 0 4 (some 122), kX, nX, 132)) (sg t) := by
  intro t ht
  obtain ⟨hK, hN⟩ := sg_KN t ht
  have hR : ∀ j, (rX w t j).map (fun u => ad (sg u)) = (qc_u2 (rX w) 0 4 (some 122) (sg t) j).map ad := fun j => by
    rw [← sg_R hw t ht j, Option.map_map]
    rfl
  have hf : qc_fs (fun u => ad (sg u)) (fun t => I (sg t), fun t => J (sg t), (rX w, kX, nX, 121)) t = qc_fs ad (I, J, (qc_u2 (rX w) 0 4 (some 122), kX, nX, 132)) (sg t) := by
    unfold qc_fs
    show (List.range (qc_fl (kX t)).length).map _ = (List.range (qc_fl (kX (sg t))).length).map _
    rw [hK]
    refine List.map_congr_left fun j _ => ?_
    unfold qc_val
    show (match (qc_fl (kX t)).getD j 0 with | 0 => Value.int (I (sg t) j) | 1 => Value.long (J (sg t) j) | _ => va_rf ((rX w t j).map (fun u => ad (sg u)))) = (match (qc_fl (kX (sg t))).getD j 0 with | 0 => Value.int (I (sg t) j) | 1 => Value.long (J (sg t) j) | _ => va_rf ((qc_u2 (rX w) 0 4 (some 122) (sg t) j).map ad))
    rw [hK, hR]
  have hr : (fun j => (rX w t j).map (fun u => ad (sg u))) = fun j => (qc_u2 (rX w) 0 4 (some 122) (sg t) j).map ad := funext hR
  unfold qc_E
  rw [hf]
  show (if kX t < 8 then Sum.inr (kX t, qc_fs ad (I, J, (qc_u2 (rX w) 0 4 (some 122), kX, nX, 132)) (sg t)) else if kX t < 10 then Sum.inl (ca (kX t), nX t, Sum.inl (I (sg t))) else Sum.inl (ca (kX t), nX t, Sum.inr (Sum.inr (Sum.inr (Sum.inr (fun j => (rX w t j).map (fun u => ad (sg u)))))))) = (if kX (sg t) < 8 then Sum.inr (kX (sg t), qc_fs ad (I, J, (qc_u2 (rX w) 0 4 (some 122), kX, nX, 132)) (sg t)) else if kX (sg t) < 10 then Sum.inl (ca (kX (sg t)), nX (sg t), Sum.inl (I (sg t))) else Sum.inl (ca (kX (sg t)), nX (sg t), Sum.inr (Sum.inr (Sum.inr (Sum.inr (fun j => (qc_u2 (rX w) 0 4 (some 122) (sg t) j).map ad))))))
  rw [hK, hN, hr]
def St_1 (Rel : (Nat → Nat → Int32) → (Nat → Nat → Int64) → (Nat → Nat) → (Nat → Nat → Int32) → Prop) : Prop := ∀ I J w M (a : Int32), Rel I J w M → ∃ r, P_X7_text M a = some r ∧ (((a < 0 ∨ ¬ a ≤ I 0 1) ∧ (-2 : Int32) = r.1 ∧ Rel I J w r.2) ∨ (¬ a < 0 ∧ a ≤ I 0 1 ∧ ∃ (q1 : ((Nat → Nat → Int32) × (Nat → Nat → Int64))) (I2 I3 I4 : Nat → Nat → Int32), P_X3_readAll (iRd (qc_cI I) a) (jRd (qc_cJ J)) = some q1 ∧ I2 = qc_u2 (q1.1) 0 1 0 ∧ I3 = qc_u2 I2 0 2 (I2 121 7) ∧ I4 = qc_u2 I3 0 3 (I3 121 8) ∧ ((¬ I4 0 2 = 0 ∧ (-1 : Int32) = r.1 ∧ Rel I4 q1.2 w r.2) ∨ (I4 0 2 = 0 ∧ ∃ I5 I6 : Nat → Nat → Int32, I5 = qc_u2 I4 0 10 0 ∧ I6 = qc_u2 I5 35 1 0 ∧ I6 121 9 = r.1 ∧ Rel (fun t => I6 (sg t)) (fun t => q1.2 (sg t)) w r.2))))
/-- a call on x that may make tokens -/
theorem lw_cT {p : Program} {l : Launch} {e : Env} {s : State} {m : MethodId} {below : List Frame} {meth : Method} {c : Code} {b L : Nat} {xs : Nat → Int32} {D : va_G} {ca : Nat → ClassId} {ad0 adX adM : Nat → Nat} {qo : Nat} {cL : ClassId} {o : Int64} {H : Heap} {locs : List Loc} {cells slots : Nat} {Q : State → Prop} {pc : Nat} {la : Array Slot} {rest st0 : List Value} {y : MethodName} {code1 : ByteArray} {maxL : Nat} {ret : Option FieldType} {rF1 rL1 mc ms n idx kk N : Nat} {C : String} {T : u_T} {tyf : Nat → FieldType} {As : List Value} {v : Int32} {h h' hM : qc_Pl}
    (C0 : lw_C p s m meth c b L xs D ca ad0) (hM9 : ∀ l, qc_M l y code1 maxL ret rF1 rL1 mc ms (.ref 0 :: As) h (some (.int v)) h') (hcw : qc_cV RL idx C y) (hmw : qc_mw y code1 maxL ret n) (hyC : y.cls = C) (hA : As.length = n) (hcl : qc_cl kk C T N tyf) (hk : qc_K h 0 = kk) (ht : 0 < qc_n h) (hAs : ∀ f, As.map (qc_rv f) = As) (hrm : rF1 + 1 ≤ 16 ∧ 8 + (maxL + 11) + rL1 ≤ 600) (hnn : qc_n h ≤ qc_n h' ∧ qc_n h' ≤ qc_RO) (hce : cells + mc ≤ 601024 ∧ slots + ms ≤ 7293034) (hst : st0 = As.reverse ++ .ref (adX 0) :: rest) (hsu : (rest.map fun v => v.category).sum ≤ 8)
    (hw : lw_w D ca s.heap.size ad0 adX adM h hM qo cL o H) (hS : va_S (fun q => s.heap.size ≤ q) s.heap H locs) (hla : la.size = 7) (hd : decode cL_law pc = .ok (.invokevirtual idx, 3))
    (k : ∀ (adX' : Nat → Nat) (H' : Heap) (locs' : List Loc), adX' 0 = adX 0 → lw_w D ca s.heap.size ad0 adX' adM h' hM qo cL o H' → va_S (fun q => s.heap.size ≤ q) s.heap H' locs' → W p l e room_1 s m #[Value.ref b] below meth c H' locs' (cells + mc) (slots + ms) Q (F0 m (pc + 3) la (.int v :: rest))) : W p l e room_1 s m #[Value.ref b] below meth c H locs cells slots Q (F0 m pc la st0) := by
  obtain ⟨⟨hx, hb, hr, hml, hown, hts, hX, hbl, hlocks, hgv⟩, hG, -⟩ := C0
  subst hst
  refine lw_call (R := room_1) (own := RL) hx hb hml hown (fun w hw => hts w (List.mem_filter.mp hw).1) hG hM9 hcw hmw hyC hA hcl hk ht hAs hrm hce hsu hw.1 hw.2.2.2.2.2.2.1 hS hla hd (fun ad' H' locs' h1 h2 h3 h4 h5 h6 => ?_)
  exact k ad' H' locs' (h2 0 (fun z => by omega)) (hw.step hnn h1 h2 h3 h5) h6
theorem lw_k1 {p : Program} {l : Launch} {e : Env} {s : State} {m : MethodId} {below : List Frame} {meth : Method} {c : Code} {b L : Nat} {xs : Nat → Int32} {D : va_G} {ca : Nat → ClassId} {ad0 : Nat → Nat} {qo : Nat} {cL : ClassId} {Rel : (Nat → Nat → Int32) → (Nat → Nat → Int64) → (Nat → Nat) → (Nat → Nat → Int32) → Prop} {x4 : Int32} {cells slots : Nat} (C0 : lw_C p s m meth c b L xs D ca ad0) (hRw : ∀ I J w M, Rel I J w M → ∀ j, 12 ≤ w j ∧ w j < 121) (hi1 : vp_in (x4 + 1) L) (hce : cells + 11 ≤ 601024 ∧ slots + 98 ≤ 7293034) (st : St_1 Rel) (go : lw_Go p l e s m below meth c b D ca ad0 qo cL Rel x4 (cells + 11) (slots + 98) 1522) : lw_Go p l e s m below meth c b D ca ad0 qo cL Rel x4 cells slots 317 := by
  obtain ⟨hx, hb, hr, hml, hown, hts, hX, hbl, hlocks, hgv⟩ := C0.1
  have hbA : ¬ (fun q : Nat => s.heap.size ≤ q) b := Nat.not_le.mpr hbl
  intro I J w M adX adM o H locs la hR hw hS hl
  have hww := hRw I J w M hR
  obtain ⟨r, e1, hcs⟩ := st I J w M (xs (x4 + 1).toNatClampNeg) hR
  -- behind the call on x: any pool that is told anew as one of the kind
  have K : ∀ (v : Int32) (h' : qc_Pl) (adX' : Nat → Nat) (H : Heap) (locs : List Loc), adX' 0 = adX 0 → lw_w D ca s.heap.size ad0 adX' adM h' (M, (fun _ _ => 0), shM) qo cL o H → va_S (fun q => s.heap.size ≤ q) s.heap H locs → v = r.1 → (∀ H : Heap, lw_w D ca s.heap.size ad0 adX' adM h' (r.2, (fun _ _ => 0), shM) qo cL o H → ∃ (adY : Nat → Nat) (I' : Nat → Nat → Int32) (J' : Nat → Nat → Int64), adY 0 = adX' 0 ∧ Rel I' J' w r.2 ∧ lw_w D ca s.heap.size ad0 adY adM (I', J', (rX w, kX, nX, 121)) (r.2, (fun _ _ => 0), shM) qo cL o H) → W p l e room_1 s m #[Value.ref b] below meth c H locs (cells + 11) (slots + 98) (lw_Z below #[Value.ref b] s) (F0 m 327 la [.int v]) := by
    intro v h' adX' H locs h0 hw hS hv hre
    refine lv_aload_n hx hb dL_law_327 rfl (lv_at hl 2 rfl) ?_
    refine lv_aload_n hx hb dL_law_328 rfl (lv_at hl 0 rfl) ?_
    refine lv_iload hx hb dL_law_329 (lv_at hl 4 rfl) ?_
    refine lv_iconst (v := 1) hx hb dL_law_331 (by decide) ?_
    refine lv_iadd hx hb dL_law_332 ?_
    refine va_sld hx hb hX hbl hbA hS hi1 dL_law_333 ?_
    refine lw_cM (As := [.int (xs (x4 + 1).toNatClampNeg)]) (v := r.1) (h' := (r.2, (fun _ _ => 0), shM)) (rest := [.int v]) C0 (c_X7_text e1) gc_RL_30 qm_X7_text rfl rfl qc_cl7 rfl (Nat.le_of_ble_eq_true rfl) (fun f => rfl) (by decide) rfl (Nat.le_of_ble_eq_true rfl) hce rfl (Nat.le_of_ble_eq_true rfl) hw hS hl.1 dL_law_334 (fun H locs hw hS => ?_)
    refine lv_icmp_eq (tgt := 1522) hx hb dL_law_337 (by decide) (fun _ => ?_) (fun c9 => absurd hv c9)
    obtain ⟨adY, I', J', hY0, hR', hw'⟩ := hre H hw
    exact go _ _ _ _ adY adM o H locs la hR' hw' hS (by rw [hY0, h0]; exact hl)
  refine lv_aload_n hx hb dL_law_317 rfl (lv_at hl 1 rfl) ?_
  refine lv_aload_n hx hb dL_law_318 rfl (lv_at hl 0 rfl) ?_
  refine lv_iload hx hb dL_law_319 (lv_at hl 4 rfl) ?_
  refine lv_iconst (v := 1) hx hb dL_law_321 (by decide) ?_
  refine lv_iadd hx hb dL_law_322 ?_
  refine va_sld hx hb hX hbl hbA hS hi1 dL_law_323 ?_
  rcases hcs with ⟨ha, hv, hR'⟩ | ⟨ha, hb9, q1, I2, I3, I4, hP, e2, e3, e4, hcs⟩
  · refine lw_cT (As := [.int (xs (x4 + 1).toNatClampNeg)]) (v := -2) (h' := (I, J, (rX w, kX, nX, 121))) (rest := []) C0 (c_X6_text_0 ha) gc_RL_26 qm_X6_text rfl rfl qc_cl6 rfl (Nat.le_of_ble_eq_true rfl) (fun f => rfl) (by decide) ⟨Nat.le_refl _, Nat.le_of_ble_eq_true rfl⟩ hce rfl (Nat.le_of_ble_eq_true rfl) hw hS hl.1 dL_law_324 (fun adX' H locs h0 hw hS => ?_)
    exact K _ _ adX' H locs h0 hw hS hv (fun H hw => ⟨adX', I, J, rfl, hR', hw⟩)
  · rcases hcs with ⟨hf, hv, hR'⟩ | ⟨hf, I5, I6, e5, e6, hv, hR'⟩
    · refine lw_cT (As := [.int (xs (x4 + 1).toNatClampNeg)]) (v := -1) (h' := (I4, q1.2, (rX w, kX, nX, 132))) (rest := []) C0 (c_X6_text_1 (fun j => (hww j).2) ha hb9 hP e2 e3 e4 hf) gc_RL_26 qm_X6_text rfl rfl qc_cl6 rfl (Nat.le_of_ble_eq_true rfl) (fun f => rfl) (by decide) ⟨Nat.le_of_ble_eq_true rfl, Nat.le_of_ble_eq_true rfl⟩ hce rfl (Nat.le_of_ble_eq_true rfl) hw hS hl.1 dL_law_324 (fun adX' H locs h0 hw hS => ?_)
      exact K _ _ adX' H locs h0 hw hS hv (fun H hw => ⟨adX', I4, q1.2, rfl, hR', hw.re (fun t => t) (fun t ht => Nat.lt_of_lt_of_le ht (Nat.le_of_ble_eq_true rfl)) (fun t u _ _ h => h) (fun t => rfl) (fun i _ => rfl) (fun t ht => rfl)⟩)
    · refine lw_cT (As := [.int (xs (x4 + 1).toNatClampNeg)]) (v := I6 121 9) (h' := (I6, q1.2, (qc_u2 (rX w) 0 4 (some 122), kX, nX, 132))) (rest := []) C0 (c_X6_text_2 (fun j => (hww j).2) ha hb9 hP e2 e3 e4 hf e5 e6) gc_RL_26 qm_X6_text rfl rfl qc_cl6 rfl (Nat.le_of_ble_eq_true rfl) (fun f => rfl) (by decide) ⟨Nat.le_of_ble_eq_true rfl, Nat.le_of_ble_eq_true rfl⟩ hce rfl (Nat.le_of_ble_eq_true rfl) hw hS hl.1 dL_law_324 (fun adX' H locs h0 hw hS => ?_)
      exact K _ _ adX' H locs h0 hw hS hv (fun H hw => ⟨fun u => adX' (sg u), fun t => I6 (sg t), fun t => q1.2 (sg t), rfl, hR', hw.re sg sg_lt sg_inj (fun t => rfl) (fun i _ => sg_o (by unfold qc_RO; omega)) (fun t ht => sg_E (fun j => (hww j).1) t ht)⟩)
