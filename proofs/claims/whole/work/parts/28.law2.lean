theorem lw_k0 {p : Program} {l : Launch} {e : Env} {s : State} {m : MethodId} {below : List Frame} {meth : Method} {c : Code} {b L : Nat} {xs : Nat → Int32} {D : va_G} {ca : Nat → ClassId} {ad0 : Nat → Nat} {qo : Nat} {cL : ClassId} {Rel : (Nat → Nat → Int32) → (Nat → Nat → Int64) → (Nat → Nat) → (Nat → Nat → Int32) → Prop} {x4 : Int32} {cells slots : Nat} (C0 : lw_C p s m meth c b L xs D ca ad0) (hi1 : vp_in (x4 + 1) L) (hi2 : vp_in (x4 + 2) L) (hi3 : vp_in (x4 + 3) L) (hi4 : vp_in (x4 + 4) L) (hi5 : vp_in (x4 + 5) L) (hce : cells ≤ 601024 ∧ slots ≤ 7293034) (st : St_0 Rel) (go : lw_Go p l e s m below meth c b D ca ad0 qo cL Rel x4 cells slots 1522) : lw_Go p l e s m below meth c b D ca ad0 qo cL Rel x4 cells slots 244 := by
  obtain ⟨hx, hb, hr, hml, hown, hts, hX, hbl, hlocks, hgv⟩ := C0.1
  have hbA : ¬ (fun q : Nat => s.heap.size ≤ q) b := Nat.not_le.mpr hbl
  intro I J w M adX adM o H locs la hR hw hS hl
  obtain ⟨q, r, e1, e2, e3, hR⟩ := st I J w M (xs (x4 + 1).toNatClampNeg) (xs (x4 + 2).toNatClampNeg) (xs (x4 + 3).toNatClampNeg) (xs (x4 + 4).toNatClampNeg) (xs (x4 + 5).toNatClampNeg) hR
  refine lv_aload_n hx hb dL_law_244 rfl (lv_at hl 1 rfl) ?_
  refine lv_aload_n hx hb dL_law_245 rfl (lv_at hl 0 rfl) ?_
  refine lv_iload hx hb dL_law_246 (lv_at hl 4 rfl) ?_
  refine lv_iconst (v := 1) hx hb dL_law_248 (by decide) ?_
  refine lv_iadd hx hb dL_law_249 ?_
  refine va_sld hx hb hX hbl hbA hS hi1 dL_law_250 ?_
  refine lv_aload_n hx hb dL_law_251 rfl (lv_at hl 0 rfl) ?_
  refine lv_iload hx hb dL_law_252 (lv_at hl 4 rfl) ?_
  refine lv_iconst (v := 2) hx hb dL_law_254 (by decide) ?_
  refine lv_iadd hx hb dL_law_255 ?_
  refine va_sld hx hb hX hbl hbA hS hi2 dL_law_256 ?_
  refine lv_aload_n hx hb dL_law_257 rfl (lv_at hl 0 rfl) ?_
  refine lv_iload hx hb dL_law_258 (lv_at hl 4 rfl) ?_
  refine lv_iconst (v := 3) hx hb dL_law_260 (by decide) ?_
  refine lv_iadd hx hb dL_law_261 ?_
  refine va_sld hx hb hX hbl hbA hS hi3 dL_law_262 ?_
  refine lv_aload_n hx hb dL_law_263 rfl (lv_at hl 0 rfl) ?_
  refine lv_iload hx hb dL_law_264 (lv_at hl 4 rfl) ?_
  refine lv_iconst (v := 4) hx hb dL_law_266 (by decide) ?_
  refine lv_iadd hx hb dL_law_267 ?_
  refine va_sld hx hb hX hbl hbA hS hi4 dL_law_268 ?_
  refine lv_aload_n hx hb dL_law_269 rfl (lv_at hl 0 rfl) ?_
  refine lv_iload hx hb dL_law_270 (lv_at hl 4 rfl) ?_
  refine lv_iconst (v := 5) hx hb dL_law_272 (by decide) ?_
  refine lv_iadd hx hb dL_law_273 ?_
  refine va_sld hx hb hX hbl hbA hS hi5 dL_law_274 ?_
  refine lw_cX (As := [.int (xs (x4 + 1).toNatClampNeg), .int (xs (x4 + 2).toNatClampNeg), .int (xs (x4 + 3).toNatClampNeg), .int (xs (x4 + 4).toNatClampNeg), .int (xs (x4 + 5).toNatClampNeg)]) (v := q.1) (h' := (q.2, J, (rX w, kX, nX, 121))) (rest := []) C0 (c_X6_feed (Nat.le_refl _) (by decide) e1) gc_RL_21 qm_X6_feed rfl rfl qc_cl6 rfl (Nat.le_of_ble_eq_true rfl) (fun f => rfl) (by decide) rfl (Nat.le_of_ble_eq_true rfl) hce rfl (Nat.le_of_ble_eq_true rfl) hw hS hl.1 dL_law_275 (fun H locs hw hS => ?_)
  refine lv_aload_n hx hb dL_law_278 rfl (lv_at hl 2 rfl) ?_
  refine lv_aload_n hx hb dL_law_279 rfl (lv_at hl 0 rfl) ?_
  refine lv_iload hx hb dL_law_280 (lv_at hl 4 rfl) ?_
  refine lv_iconst (v := 1) hx hb dL_law_282 (by decide) ?_
  refine lv_iadd hx hb dL_law_283 ?_
  refine va_sld hx hb hX hbl hbA hS hi1 dL_law_284 ?_
  refine lv_aload_n hx hb dL_law_285 rfl (lv_at hl 0 rfl) ?_
  refine lv_iload hx hb dL_law_286 (lv_at hl 4 rfl) ?_
  refine lv_iconst (v := 2) hx hb dL_law_288 (by decide) ?_
  refine lv_iadd hx hb dL_law_289 ?_
  refine va_sld hx hb hX hbl hbA hS hi2 dL_law_290 ?_
  refine lv_aload_n hx hb dL_law_291 rfl (lv_at hl 0 rfl) ?_
  refine lv_iload hx hb dL_law_292 (lv_at hl 4 rfl) ?_
  refine lv_iconst (v := 3) hx hb dL_law_294 (by decide) ?_
  refine lv_iadd hx hb dL_law_295 ?_
  refine va_sld hx hb hX hbl hbA hS hi3 dL_law_296 ?_
  refine lv_aload_n hx hb dL_law_297 rfl (lv_at hl 0 rfl) ?_
  refine lv_iload hx hb dL_law_298 (lv_at hl 4 rfl) ?_
  refine lv_iconst (v := 4) hx hb dL_law_300 (by decide) ?_
  refine lv_iadd hx hb dL_law_301 ?_
  refine va_sld hx hb hX hbl hbA hS hi4 dL_law_302 ?_
  refine lv_aload_n hx hb dL_law_303 rfl (lv_at hl 0 rfl) ?_
  refine lv_iload hx hb dL_law_304 (lv_at hl 4 rfl) ?_
  refine lv_iconst (v := 5) hx hb dL_law_306 (by decide) ?_
  refine lv_iadd hx hb dL_law_307 ?_
  refine va_sld hx hb hX hbl hbA hS hi5 dL_law_308 ?_
  refine lw_cM (As := [.int (xs (x4 + 1).toNatClampNeg), .int (xs (x4 + 2).toNatClampNeg), .int (xs (x4 + 3).toNatClampNeg), .int (xs (x4 + 4).toNatClampNeg), .int (xs (x4 + 5).toNatClampNeg)]) (v := r.1) (h' := (r.2, (fun _ _ => 0), shM)) (rest := [.int q.1]) C0 (c_X7_feed e2) gc_RL_25 qm_X7_feed rfl rfl qc_cl7 rfl (Nat.le_of_ble_eq_true rfl) (fun f => rfl) (by decide) rfl (Nat.le_of_ble_eq_true rfl) hce rfl (Nat.le_of_ble_eq_true rfl) hw hS hl.1 dL_law_309 (fun H locs hw hS => ?_)
  refine lv_icmp_eq (tgt := 1522) hx hb dL_law_312 (by decide) (fun _ => ?_) (fun c9 => absurd e3 c9)
  exact go _ _ _ _ adX adM o H locs la hR hw hS hl
theorem lw_k2 {p : Program} {l : Launch} {e : Env} {s : State} {m : MethodId} {below : List Frame} {meth : Method} {c : Code} {b L : Nat} {xs : Nat → Int32} {D : va_G} {ca : Nat → ClassId} {ad0 : Nat → Nat} {qo : Nat} {cL : ClassId} {Rel : (Nat → Nat → Int32) → (Nat → Nat → Int64) → (Nat → Nat) → (Nat → Nat → Int32) → Prop} {x4 : Int32} {cells slots : Nat} (C0 : lw_C p s m meth c b L xs D ca ad0) (hi1 : vp_in (x4 + 1) L) (hi2 : vp_in (x4 + 2) L) (hi3 : vp_in (x4 + 3) L) (hi4 : vp_in (x4 + 4) L) (hi5 : vp_in (x4 + 5) L) (hce : cells ≤ 601024 ∧ slots ≤ 7293034) (st : St_2 Rel) (go : lw_Go p l e s m below meth c b D ca ad0 qo cL Rel x4 cells slots 1522) : lw_Go p l e s m below meth c b D ca ad0 qo cL Rel x4 cells slots 342 := by
  obtain ⟨hx, hb, hr, hml, hown, hts, hX, hbl, hlocks, hgv⟩ := C0.1
  have hbA : ¬ (fun q : Nat => s.heap.size ≤ q) b := Nat.not_le.mpr hbl
  intro I J w M adX adM o H locs la hR hw hS hl
  obtain ⟨q, r, e1, e2, e3, hR⟩ := st I J w M (xs (x4 + 1).toNatClampNeg) hR
  refine lv_aload_n hx hb dL_law_342 rfl (lv_at hl 1 rfl) ?_
  refine lv_aload_n hx hb dL_law_343 rfl (lv_at hl 0 rfl) ?_
  refine lv_iload hx hb dL_law_344 (lv_at hl 4 rfl) ?_
  refine lv_iconst (v := 1) hx hb dL_law_346 (by decide) ?_
  refine lv_iadd hx hb dL_law_347 ?_
  refine va_sld hx hb hX hbl hbA hS hi1 dL_law_348 ?_
  refine lw_cX (As := [.int (xs (x4 + 1).toNatClampNeg)]) (v := q) (h' := (I, J, (rX w, kX, nX, 121))) (rest := []) C0 (c_X6_fault (Nat.le_refl _) (by decide) e1) gc_RL_31 qm_X6_fault rfl rfl qc_cl6 rfl (Nat.le_of_ble_eq_true rfl) (fun f => rfl) (by decide) rfl (Nat.le_of_ble_eq_true rfl) hce rfl (Nat.le_of_ble_eq_true rfl) hw hS hl.1 dL_law_349 (fun H locs hw hS => ?_)
  refine lv_aload_n hx hb dL_law_352 rfl (lv_at hl 2 rfl) ?_
  refine lv_aload_n hx hb dL_law_353 rfl (lv_at hl 0 rfl) ?_
  refine lv_iload hx hb dL_law_354 (lv_at hl 4 rfl) ?_
  refine lv_iconst (v := 1) hx hb dL_law_356 (by decide) ?_
  refine lv_iadd hx hb dL_law_357 ?_
  refine va_sld hx hb hX hbl hbA hS hi1 dL_law_358 ?_
  refine lw_cM (As := [.int (xs (x4 + 1).toNatClampNeg)]) (v := r.1) (h' := (r.2, (fun _ _ => 0), shM)) (rest := [.int q]) C0 (c_X7_fault e2) gc_RL_34 qm_X7_fault rfl rfl qc_cl7 rfl (Nat.le_of_ble_eq_true rfl) (fun f => rfl) (by decide) rfl (Nat.le_of_ble_eq_true rfl) hce rfl (Nat.le_of_ble_eq_true rfl) hw hS hl.1 dL_law_359 (fun H locs hw hS => ?_)
  refine lv_icmp_eq (tgt := 1522) hx hb dL_law_362 (by decide) (fun _ => ?_) (fun c9 => absurd e3 c9)
  exact go _ _ _ _ adX adM o H locs la hR hw hS hl
theorem lw_k3 {p : Program} {l : Launch} {e : Env} {s : State} {m : MethodId} {below : List Frame} {meth : Method} {c : Code} {b L : Nat} {xs : Nat → Int32} {D : va_G} {ca : Nat → ClassId} {ad0 : Nat → Nat} {qo : Nat} {cL : ClassId} {Rel : (Nat → Nat → Int32) → (Nat → Nat → Int64) → (Nat → Nat) → (Nat → Nat → Int32) → Prop} {x4 : Int32} {cells slots : Nat} (C0 : lw_C p s m meth c b L xs D ca ad0) (hi1 : vp_in (x4 + 1) L) (hi2 : vp_in (x4 + 2) L) (hi3 : vp_in (x4 + 3) L) (hi4 : vp_in (x4 + 4) L) (hi5 : vp_in (x4 + 5) L) (hce : cells ≤ 601024 ∧ slots ≤ 7293034) (st : St_3 Rel) (go : lw_Go p l e s m below meth c b D ca ad0 qo cL Rel x4 cells slots 1522) : lw_Go p l e s m below meth c b D ca ad0 qo cL Rel x4 cells slots 367 := by
  obtain ⟨hx, hb, hr, hml, hown, hts, hX, hbl, hlocks, hgv⟩ := C0.1
  have hbA : ¬ (fun q : Nat => s.heap.size ≤ q) b := Nat.not_le.mpr hbl
  intro I J w M adX adM o H locs la hR hw hS hl
  obtain ⟨q, r, e1, e2, e3, hR⟩ := st I J w M (xs (x4 + 1).toNatClampNeg) hR
  refine lv_aload_n hx hb dL_law_367 rfl (lv_at hl 1 rfl) ?_
  refine lv_aload_n hx hb dL_law_368 rfl (lv_at hl 0 rfl) ?_
  refine lv_iload hx hb dL_law_369 (lv_at hl 4 rfl) ?_
  refine lv_iconst (v := 1) hx hb dL_law_371 (by decide) ?_
  refine lv_iadd hx hb dL_law_372 ?_
  refine va_sld hx hb hX hbl hbA hS hi1 dL_law_373 ?_
  refine lw_cX (As := [.int (xs (x4 + 1).toNatClampNeg)]) (v := q) (h' := (I, J, (rX w, kX, nX, 121))) (rest := []) C0 (c_X6_named (Nat.le_refl _) (by decide) e1) gc_RL_35 qm_X6_named rfl rfl qc_cl6 rfl (Nat.le_of_ble_eq_true rfl) (fun f => rfl) (by decide) rfl (Nat.le_of_ble_eq_true rfl) hce rfl (Nat.le_of_ble_eq_true rfl) hw hS hl.1 dL_law_374 (fun H locs hw hS => ?_)
  refine lv_aload_n hx hb dL_law_377 rfl (lv_at hl 2 rfl) ?_
  refine lv_aload_n hx hb dL_law_378 rfl (lv_at hl 0 rfl) ?_
  refine lv_iload hx hb dL_law_379 (lv_at hl 4 rfl) ?_
  refine lv_iconst (v := 1) hx hb dL_law_381 (by decide) ?_
  refine lv_iadd hx hb dL_law_382 ?_
  refine va_sld hx hb hX hbl hbA hS hi1 dL_law_383 ?_
  refine lw_cM (As := [.int (xs (x4 + 1).toNatClampNeg)]) (v := r.1) (h' := (r.2, (fun _ _ => 0), shM)) (rest := [.int q]) C0 (c_X7_named e2) gc_RL_38 qm_X7_named rfl rfl qc_cl7 rfl (Nat.le_of_ble_eq_true rfl) (fun f => rfl) (by decide) rfl (Nat.le_of_ble_eq_true rfl) hce rfl (Nat.le_of_ble_eq_true rfl) hw hS hl.1 dL_law_384 (fun H locs hw hS => ?_)
  refine lv_icmp_eq (tgt := 1522) hx hb dL_law_387 (by decide) (fun _ => ?_) (fun c9 => absurd e3 c9)
  exact go _ _ _ _ adX adM o H locs la hR hw hS hl
theorem lw_k4 {p : Program} {l : Launch} {e : Env} {s : State} {m : MethodId} {below : List Frame} {meth : Method} {c : Code} {b L : Nat} {xs : Nat → Int32} {D : va_G} {ca : Nat → ClassId} {ad0 : Nat → Nat} {qo : Nat} {cL : ClassId} {Rel : (Nat → Nat → Int32) → (Nat → Nat → Int64) → (Nat → Nat) → (Nat → Nat → Int32) → Prop} {x4 : Int32} {cells slots : Nat} (C0 : lw_C p s m meth c b L xs D ca ad0) (hi1 : vp_in (x4 + 1) L) (hi2 : vp_in (x4 + 2) L) (hi3 : vp_in (x4 + 3) L) (hi4 : vp_in (x4 + 4) L) (hi5 : vp_in (x4 + 5) L) (hce : cells ≤ 601024 ∧ slots ≤ 7293034) (st : St_4 Rel) (go : lw_Go p l e s m below meth c b D ca ad0 qo cL Rel x4 cells slots 1522) : lw_Go p l e s m below meth c b D ca ad0 qo cL Rel x4 cells slots 392 := by
  obtain ⟨hx, hb, hr, hml, hown, hts, hX, hbl, hlocks, hgv⟩ := C0.1
  have hbA : ¬ (fun q : Nat => s.heap.size ≤ q) b := Nat.not_le.mpr hbl
  intro I J w M adX adM o H locs la hR hw hS hl
  obtain ⟨q, r, e1, e2, e3, hR⟩ := st I J w M (xs (x4 + 1).toNatClampNeg) (xs (x4 + 2).toNatClampNeg) hR
  refine lv_aload_n hx hb dL_law_392 rfl (lv_at hl 1 rfl) ?_
  refine lv_aload_n hx hb dL_law_393 rfl (lv_at hl 0 rfl) ?_
  refine lv_iload hx hb dL_law_394 (lv_at hl 4 rfl) ?_
  refine lv_iconst (v := 1) hx hb dL_law_396 (by decide) ?_
  refine lv_iadd hx hb dL_law_397 ?_
  refine va_sld hx hb hX hbl hbA hS hi1 dL_law_398 ?_
  refine lv_aload_n hx hb dL_law_399 rfl (lv_at hl 0 rfl) ?_
  refine lv_iload hx hb dL_law_400 (lv_at hl 4 rfl) ?_
  refine lv_iconst (v := 2) hx hb dL_law_402 (by decide) ?_
  refine lv_iadd hx hb dL_law_403 ?_
  refine va_sld hx hb hX hbl hbA hS hi2 dL_law_404 ?_
  refine lw_cX (As := [.int (xs (x4 + 1).toNatClampNeg), .int (xs (x4 + 2).toNatClampNeg)]) (v := q.1) (h' := (q.2.1, q.2.2.1, (rX q.2.2.2, kX, nX, 121))) (rest := []) C0 (c_X6_tune (Nat.le_refl _) (by decide) e1) gc_RL_39 qm_X6_tune rfl rfl qc_cl6 rfl (Nat.le_of_ble_eq_true rfl) (fun f => rfl) (by decide) rfl (Nat.le_of_ble_eq_true rfl) hce rfl (Nat.le_of_ble_eq_true rfl) hw hS hl.1 dL_law_405 (fun H locs hw hS => ?_)
  refine lv_aload_n hx hb dL_law_408 rfl (lv_at hl 2 rfl) ?_
  refine lv_aload_n hx hb dL_law_409 rfl (lv_at hl 0 rfl) ?_
  refine lv_iload hx hb dL_law_410 (lv_at hl 4 rfl) ?_
  refine lv_iconst (v := 1) hx hb dL_law_412 (by decide) ?_
  refine lv_iadd hx hb dL_law_413 ?_
  refine va_sld hx hb hX hbl hbA hS hi1 dL_law_414 ?_
  refine lv_aload_n hx hb dL_law_415 rfl (lv_at hl 0 rfl) ?_
  refine lv_iload hx hb dL_law_416 (lv_at hl 4 rfl) ?_
  refine lv_iconst (v := 2) hx hb dL_law_418 (by decide) ?_
  refine lv_iadd hx hb dL_law_419 ?_
  refine va_sld hx hb hX hbl hbA hS hi2 dL_law_420 ?_
  refine lw_cM (As := [.int (xs (x4 + 1).toNatClampNeg), .int (xs (x4 + 2).toNatClampNeg)]) (v := r.1) (h' := (r.2, (fun _ _ => 0), shM)) (rest := [.int q.1]) C0 (c_X7_tune e2) gc_RL_42 qm_X7_tune rfl rfl qc_cl7 rfl (Nat.le_of_ble_eq_true rfl) (fun f => rfl) (by decide) rfl (Nat.le_of_ble_eq_true rfl) hce rfl (Nat.le_of_ble_eq_true rfl) hw hS hl.1 dL_law_421 (fun H locs hw hS => ?_)
  refine lv_icmp_eq (tgt := 1522) hx hb dL_law_424 (by decide) (fun _ => ?_) (fun c9 => absurd e3 c9)
  exact go _ _ _ _ adX adM o H locs la hR hw hS hl
theorem lw_k5 {p : Program} {l : Launch} {e : Env} {s : State} {m : MethodId} {below : List Frame} {meth : Method} {c : Code} {b L : Nat} {xs : Nat → Int32} {D : va_G} {ca : Nat → ClassId} {ad0 : Nat → Nat} {qo : Nat} {cL : ClassId} {Rel : (Nat → Nat → Int32) → (Nat → Nat → Int64) → (Nat → Nat) → (Nat → Nat → Int32) → Prop} {x4 : Int32} {cells slots : Nat} (C0 : lw_C p s m meth c b L xs D ca ad0) (hi1 : vp_in (x4 + 1) L) (hi2 : vp_in (x4 + 2) L) (hi3 : vp_in (x4 + 3) L) (hi4 : vp_in (x4 + 4) L) (hi5 : vp_in (x4 + 5) L) (hce : cells ≤ 601024 ∧ slots ≤ 7293034) (st : St_5 Rel) (go : lw_Go p l e s m below meth c b D ca ad0 qo cL Rel x4 cells slots 1522) : lw_Go p l e s m below meth c b D ca ad0 qo cL Rel x4 cells slots 429 := by
  obtain ⟨hx, hb, hr, hml, hown, hts, hX, hbl, hlocks, hgv⟩ := C0.1
  have hbA : ¬ (fun q : Nat => s.heap.size ≤ q) b := Nat.not_le.mpr hbl
  intro I J w M adX adM o H locs la hR hw hS hl
  obtain ⟨q, r, e1, e2, e3, hR⟩ := st I J w M (xs (x4 + 1).toNatClampNeg) hR
  refine lv_aload_n hx hb dL_law_429 rfl (lv_at hl 1 rfl) ?_
  refine lv_aload_n hx hb dL_law_430 rfl (lv_at hl 0 rfl) ?_
  refine lv_iload hx hb dL_law_431 (lv_at hl 4 rfl) ?_
  refine lv_iconst (v := 1) hx hb dL_law_433 (by decide) ?_
  refine lv_iadd hx hb dL_law_434 ?_
  refine va_sld hx hb hX hbl hbA hS hi1 dL_law_435 ?_
  refine lw_cX (As := [.int (xs (x4 + 1).toNatClampNeg)]) (v := q.1) (h' := (q.2.1, q.2.2.1, (rX q.2.2.2, kX, nX, 121))) (rest := []) C0 (c_X6_block (Nat.le_refl _) (by decide) e1) gc_RL_43 qm_X6_block rfl rfl qc_cl6 rfl (Nat.le_of_ble_eq_true rfl) (fun f => rfl) (by decide) rfl (Nat.le_of_ble_eq_true rfl) hce rfl (Nat.le_of_ble_eq_true rfl) hw hS hl.1 dL_law_436 (fun H locs hw hS => ?_)
  refine lv_aload_n hx hb dL_law_439 rfl (lv_at hl 2 rfl) ?_
  refine lv_aload_n hx hb dL_law_440 rfl (lv_at hl 0 rfl) ?_
  refine lv_iload hx hb dL_law_441 (lv_at hl 4 rfl) ?_
  refine lv_iconst (v := 1) hx hb dL_law_443 (by decide) ?_
  refine lv_iadd hx hb dL_law_444 ?_
  refine va_sld hx hb hX hbl hbA hS hi1 dL_law_445 ?_
  refine lw_cM (As := [.int (xs (x4 + 1).toNatClampNeg)]) (v := r.1) (h' := (r.2, (fun _ _ => 0), shM)) (rest := [.int q.1]) C0 (c_X7_block e2) gc_RL_46 qm_X7_block rfl rfl qc_cl7 rfl (Nat.le_of_ble_eq_true rfl) (fun f => rfl) (by decide) rfl (Nat.le_of_ble_eq_true rfl) hce rfl (Nat.le_of_ble_eq_true rfl) hw hS hl.1 dL_law_446 (fun H locs hw hS => ?_)
  refine lv_icmp_eq (tgt := 1522) hx hb dL_law_449 (by decide) (fun _ => ?_) (fun c9 => absurd e3 c9)
  exact go _ _ _ _ adX adM o H locs la hR hw hS hl
theorem lw_k6 {p : Program} {l : Launch} {e : Env} {s : State} {m : MethodId} {below : List Frame} {meth : Method} {c : Code} {b L : Nat} {xs : Nat → Int32} {D : va_G} {ca : Nat → ClassId} {ad0 : Nat → Nat} {qo : Nat} {cL : ClassId} {Rel : (Nat → Nat → Int32) → (Nat → Nat → Int64) → (Nat → Nat) → (Nat → Nat → Int32) → Prop} {x4 : Int32} {cells slots : Nat} (C0 : lw_C p s m meth c b L xs D ca ad0) (hi1 : vp_in (x4 + 1) L) (hi2 : vp_in (x4 + 2) L) (hi3 : vp_in (x4 + 3) L) (hi4 : vp_in (x4 + 4) L) (hi5 : vp_in (x4 + 5) L) (hce : cells ≤ 601024 ∧ slots ≤ 7293034) (st : St_6 Rel) (go : lw_Go p l e s m below meth c b D ca ad0 qo cL Rel x4 cells slots 1522) : lw_Go p l e s m below meth c b D ca ad0 qo cL Rel x4 cells slots 454 := by
  obtain ⟨hx, hb, hr, hml, hown, hts, hX, hbl, hlocks, hgv⟩ := C0.1
  have hbA : ¬ (fun q : Nat => s.heap.size ≤ q) b := Nat.not_le.mpr hbl
  intro I J w M adX adM o H locs la hR hw hS hl
  obtain ⟨q, r, e1, e2, e3, hR⟩ := st I J w M (xs (x4 + 1).toNatClampNeg) (xs (x4 + 2).toNatClampNeg) hR
  refine lv_aload_n hx hb dL_law_454 rfl (lv_at hl 1 rfl) ?_
  refine lv_aload_n hx hb dL_law_455 rfl (lv_at hl 0 rfl) ?_
  refine lv_iload hx hb dL_law_456 (lv_at hl 4 rfl) ?_
  refine lv_iconst (v := 1) hx hb dL_law_458 (by decide) ?_
  refine lv_iadd hx hb dL_law_459 ?_
  refine va_sld hx hb hX hbl hbA hS hi1 dL_law_460 ?_
  refine lv_aload_n hx hb dL_law_461 rfl (lv_at hl 0 rfl) ?_
  refine lv_iload hx hb dL_law_462 (lv_at hl 4 rfl) ?_
  refine lv_iconst (v := 2) hx hb dL_law_464 (by decide) ?_
  refine lv_iadd hx hb dL_law_465 ?_
  refine va_sld hx hb hX hbl hbA hS hi2 dL_law_466 ?_
  refine lw_cX (As := [.int (xs (x4 + 1).toNatClampNeg), .int (xs (x4 + 2).toNatClampNeg)]) (v := q.1) (h' := (q.2.1, q.2.2.1, (rX q.2.2.2, kX, nX, 121))) (rest := []) C0 (c_X6_power (Nat.le_refl _) (by decide) e1) gc_RL_47 qm_X6_power rfl rfl qc_cl6 rfl (Nat.le_of_ble_eq_true rfl) (fun f => rfl) (by decide) rfl (Nat.le_of_ble_eq_true rfl) hce rfl (Nat.le_of_ble_eq_true rfl) hw hS hl.1 dL_law_467 (fun H locs hw hS => ?_)
  refine lv_aload_n hx hb dL_law_470 rfl (lv_at hl 2 rfl) ?_
  refine lv_aload_n hx hb dL_law_471 rfl (lv_at hl 0 rfl) ?_
  refine lv_iload hx hb dL_law_472 (lv_at hl 4 rfl) ?_
  refine lv_iconst (v := 1) hx hb dL_law_474 (by decide) ?_
  refine lv_iadd hx hb dL_law_475 ?_
  refine va_sld hx hb hX hbl hbA hS hi1 dL_law_476 ?_
  refine lv_aload_n hx hb dL_law_477 rfl (lv_at hl 0 rfl) ?_
  refine lv_iload hx hb dL_law_478 (lv_at hl 4 rfl) ?_
  refine lv_iconst (v := 2) hx hb dL_law_480 (by decide) ?_
  refine lv_iadd hx hb dL_law_481 ?_
  refine va_sld hx hb hX hbl hbA hS hi2 dL_law_482 ?_
  refine lw_cM (As := [.int (xs (x4 + 1).toNatClampNeg), .int (xs (x4 + 2).toNatClampNeg)]) (v := r.1) (h' := (r.2, (fun _ _ => 0), shM)) (rest := [.int q.1]) C0 (c_X7_power e2) gc_RL_50 qm_X7_power rfl rfl qc_cl7 rfl (Nat.le_of_ble_eq_true rfl) (fun f => rfl) (by decide) rfl (Nat.le_of_ble_eq_true rfl) hce rfl (Nat.le_of_ble_eq_true rfl) hw hS hl.1 dL_law_483 (fun H locs hw hS => ?_)
  refine lv_icmp_eq (tgt := 1522) hx hb dL_law_486 (by decide) (fun _ => ?_) (fun c9 => absurd e3 c9)
  exact go _ _ _ _ adX adM o H locs la hR hw hS hl
theorem lw_k7 {p : Program} {l : Launch} {e : Env} {s : State} {m : MethodId} {below : List Frame} {meth : Method} {c : Code} {b L : Nat} {xs : Nat → Int32} {D : va_G} {ca : Nat → ClassId} {ad0 : Nat → Nat} {qo : Nat} {cL : ClassId} {Rel : (Nat → Nat → Int32) → (Nat → Nat → Int64) → (Nat → Nat) → (Nat → Nat → Int32) → Prop} {x4 : Int32} {cells slots : Nat} (C0 : lw_C p s m meth c b L xs D ca ad0) (hi1 : vp_in (x4 + 1) L) (hi2 : vp_in (x4 + 2) L) (hi3 : vp_in (x4 + 3) L) (hi4 : vp_in (x4 + 4) L) (hi5 : vp_in (x4 + 5) L) (hce : cells ≤ 601024 ∧ slots ≤ 7293034) (st : St_7 Rel) (go : lw_Go p l e s m below meth c b D ca ad0 qo cL Rel x4 cells slots 1522) : lw_Go p l e s m below meth c b D ca ad0 qo cL Rel x4 cells slots 491 := by
  obtain ⟨hx, hb, hr, hml, hown, hts, hX, hbl, hlocks, hgv⟩ := C0.1
  have hbA : ¬ (fun q : Nat => s.heap.size ≤ q) b := Nat.not_le.mpr hbl
  intro I J w M adX adM o H locs la hR hw hS hl
  obtain ⟨q, r, e1, e2, e3, hR⟩ := st I J w M (xs (x4 + 1).toNatClampNeg) (xs (x4 + 2).toNatClampNeg) hR
  refine lv_aload_n hx hb dL_law_491 rfl (lv_at hl 1 rfl) ?_
  refine lv_aload_n hx hb dL_law_492 rfl (lv_at hl 0 rfl) ?_
  refine lv_iload hx hb dL_law_493 (lv_at hl 4 rfl) ?_
  refine lv_iconst (v := 1) hx hb dL_law_495 (by decide) ?_
  refine lv_iadd hx hb dL_law_496 ?_
  refine va_sld hx hb hX hbl hbA hS hi1 dL_law_497 ?_
  refine lv_aload_n hx hb dL_law_498 rfl (lv_at hl 0 rfl) ?_
  refine lv_iload hx hb dL_law_499 (lv_at hl 4 rfl) ?_
  refine lv_iconst (v := 2) hx hb dL_law_501 (by decide) ?_
  refine lv_iadd hx hb dL_law_502 ?_
  refine va_sld hx hb hX hbl hbA hS hi2 dL_law_503 ?_
  refine lw_cX (As := [.int (xs (x4 + 1).toNatClampNeg), .int (xs (x4 + 2).toNatClampNeg)]) (v := q.1) (h' := (q.2.1, q.2.2.1, (rX q.2.2.2, kX, nX, 121))) (rest := []) C0 (c_X6_slots (Nat.le_refl _) (by decide) e1) gc_RL_51 qm_X6_slots rfl rfl qc_cl6 rfl (Nat.le_of_ble_eq_true rfl) (fun f => rfl) (by decide) rfl (Nat.le_of_ble_eq_true rfl) hce rfl (Nat.le_of_ble_eq_true rfl) hw hS hl.1 dL_law_504 (fun H locs hw hS => ?_)
  refine lv_aload_n hx hb dL_law_507 rfl (lv_at hl 2 rfl) ?_
  refine lv_aload_n hx hb dL_law_508 rfl (lv_at hl 0 rfl) ?_
  refine lv_iload hx hb dL_law_509 (lv_at hl 4 rfl) ?_
  refine lv_iconst (v := 1) hx hb dL_law_511 (by decide) ?_
  refine lv_iadd hx hb dL_law_512 ?_
  refine va_sld hx hb hX hbl hbA hS hi1 dL_law_513 ?_
  refine lv_aload_n hx hb dL_law_514 rfl (lv_at hl 0 rfl) ?_
  refine lv_iload hx hb dL_law_515 (lv_at hl 4 rfl) ?_
  refine lv_iconst (v := 2) hx hb dL_law_517 (by decide) ?_
  refine lv_iadd hx hb dL_law_518 ?_
  refine va_sld hx hb hX hbl hbA hS hi2 dL_law_519 ?_
  refine lw_cM (As := [.int (xs (x4 + 1).toNatClampNeg), .int (xs (x4 + 2).toNatClampNeg)]) (v := r.1) (h' := (r.2, (fun _ _ => 0), shM)) (rest := [.int q.1]) C0 (c_X7_slots e2) gc_RL_54 qm_X7_slots rfl rfl qc_cl7 rfl (Nat.le_of_ble_eq_true rfl) (fun f => rfl) (by decide) rfl (Nat.le_of_ble_eq_true rfl) hce rfl (Nat.le_of_ble_eq_true rfl) hw hS hl.1 dL_law_520 (fun H locs hw hS => ?_)
  refine lv_icmp_eq (tgt := 1522) hx hb dL_law_523 (by decide) (fun _ => ?_) (fun c9 => absurd e3 c9)
  exact go _ _ _ _ adX adM o H locs la hR hw hS hl
theorem lw_k8 {p : Program} {l : Launch} {e : Env} {s : State} {m : MethodId} {below : List Frame} {meth : Method} {c : Code} {b L : Nat} {xs : Nat → Int32} {D : va_G} {ca : Nat → ClassId} {ad0 : Nat → Nat} {qo : Nat} {cL : ClassId} {Rel : (Nat → Nat → Int32) → (Nat → Nat → Int64) → (Nat → Nat) → (Nat → Nat → Int32) → Prop} {x4 : Int32} {cells slots : Nat} (C0 : lw_C p s m meth c b L xs D ca ad0) (hi1 : vp_in (x4 + 1) L) (hi2 : vp_in (x4 + 2) L) (hi3 : vp_in (x4 + 3) L) (hi4 : vp_in (x4 + 4) L) (hi5 : vp_in (x4 + 5) L) (hce : cells ≤ 601024 ∧ slots ≤ 7293034) (st : St_8 Rel) (go : lw_Go p l e s m below meth c b D ca ad0 qo cL Rel x4 cells slots 1522) : lw_Go p l e s m below meth c b D ca ad0 qo cL Rel x4 cells slots 528 := by
  obtain ⟨hx, hb, hr, hml, hown, hts, hX, hbl, hlocks, hgv⟩ := C0.1
  have hbA : ¬ (fun q : Nat => s.heap.size ≤ q) b := Nat.not_le.mpr hbl
  intro I J w M adX adM o H locs la hR hw hS hl
  obtain ⟨q, r, e1, e2, e3, hR⟩ := st I J w M  hR
  refine lv_aload_n hx hb dL_law_528 rfl (lv_at hl 1 rfl) ?_
  refine lw_cX (As := []) (v := q.1) (h' := (q.2.1, q.2.2.1, (rX q.2.2.2, kX, nX, 121))) (rest := []) C0 (c_X6_complete (Nat.le_refl _) (by decide) e1) gc_RL_55 qm_X6_complete rfl rfl qc_cl6 rfl (Nat.le_of_ble_eq_true rfl) (fun f => rfl) (by decide) rfl (Nat.le_of_ble_eq_true rfl) hce rfl (Nat.le_of_ble_eq_true rfl) hw hS hl.1 dL_law_529 (fun H locs hw hS => ?_)
  refine lv_aload_n hx hb dL_law_532 rfl (lv_at hl 2 rfl) ?_
  refine lw_cM (As := []) (v := r.1) (h' := (r.2, (fun _ _ => 0), shM)) (rest := [.int q.1]) C0 (c_X7_complete e2) gc_RL_59 qm_X7_complete rfl rfl qc_cl7 rfl (Nat.le_of_ble_eq_true rfl) (fun f => rfl) (by decide) rfl (Nat.le_of_ble_eq_true rfl) hce rfl (Nat.le_of_ble_eq_true rfl) hw hS hl.1 dL_law_533 (fun H locs hw hS => ?_)
  refine lv_icmp_eq (tgt := 1522) hx hb dL_law_536 (by decide) (fun _ => ?_) (fun c9 => absurd e3 c9)
  exact go _ _ _ _ adX adM o H locs la hR hw hS hl
theorem lw_k9 {p : Program} {l : Launch} {e : Env} {s : State} {m : MethodId} {below : List Frame} {meth : Method} {c : Code} {b L : Nat} {xs : Nat → Int32} {D : va_G} {ca : Nat → ClassId} {ad0 : Nat → Nat} {qo : Nat} {cL : ClassId} {Rel : (Nat → Nat → Int32) → (Nat → Nat → Int64) → (Nat → Nat) → (Nat → Nat → Int32) → Prop} {x4 : Int32} {cells slots : Nat} (C0 : lw_C p s m meth c b L xs D ca ad0) (hi1 : vp_in (x4 + 1) L) (hi2 : vp_in (x4 + 2) L) (hi3 : vp_in (x4 + 3) L) (hi4 : vp_in (x4 + 4) L) (hi5 : vp_in (x4 + 5) L) (hce : cells ≤ 601024 ∧ slots ≤ 7293034) (st : St_9 Rel) (go : lw_Go p l e s m below meth c b D ca ad0 qo cL Rel x4 cells slots 1522) : lw_Go p l e s m below meth c b D ca ad0 qo cL Rel x4 cells slots 541 := by
  obtain ⟨hx, hb, hr, hml, hown, hts, hX, hbl, hlocks, hgv⟩ := C0.1
  have hbA : ¬ (fun q : Nat => s.heap.size ≤ q) b := Nat.not_le.mpr hbl
  intro I J w M adX adM o H locs la hR hw hS hl
  obtain ⟨q, r, e1, e2, e3, hR⟩ := st I J w M  hR
  refine lv_aload_n hx hb dL_law_541 rfl (lv_at hl 1 rfl) ?_
  refine lw_cX (As := []) (v := q.1) (h' := (q.2.1, q.2.2.1, (rX q.2.2.2, kX, nX, 121))) (rest := []) C0 (c_X6_mend (Nat.le_refl _) (by decide) e1) gc_RL_60 qm_X6_mend rfl rfl qc_cl6 rfl (Nat.le_of_ble_eq_true rfl) (fun f => rfl) (by decide) rfl (Nat.le_of_ble_eq_true rfl) hce rfl (Nat.le_of_ble_eq_true rfl) hw hS hl.1 dL_law_542 (fun H locs hw hS => ?_)
  refine lv_aload_n hx hb dL_law_545 rfl (lv_at hl 2 rfl) ?_
  refine lw_cM (As := []) (v := r.1) (h' := (r.2, (fun _ _ => 0), shM)) (rest := [.int q.1]) C0 (c_X7_mend e2) gc_RL_63 qm_X7_mend rfl rfl qc_cl7 rfl (Nat.le_of_ble_eq_true rfl) (fun f => rfl) (by decide) rfl (Nat.le_of_ble_eq_true rfl) hce rfl (Nat.le_of_ble_eq_true rfl) hw hS hl.1 dL_law_546 (fun H locs hw hS => ?_)
  refine lv_icmp_eq (tgt := 1522) hx hb dL_law_549 (by decide) (fun _ => ?_) (fun c9 => absurd e3 c9)
  exact go _ _ _ _ adX adM o H locs la hR hw hS hl
theorem lw_k11 {p : Program} {l : Launch} {e : Env} {s : State} {m : MethodId} {below : List Frame} {meth : Method} {c : Code} {b L : Nat} {xs : Nat → Int32} {D : va_G} {ca : Nat → ClassId} {ad0 : Nat → Nat} {qo : Nat} {cL : ClassId} {Rel : (Nat → Nat → Int32) → (Nat → Nat → Int64) → (Nat → Nat) → (Nat → Nat → Int32) → Prop} {x4 : Int32} {cells slots : Nat} (C0 : lw_C p s m meth c b L xs D ca ad0) (hi1 : vp_in (x4 + 1) L) (hi2 : vp_in (x4 + 2) L) (hi3 : vp_in (x4 + 3) L) (hi4 : vp_in (x4 + 4) L) (hi5 : vp_in (x4 + 5) L) (hce : cells ≤ 601024 ∧ slots ≤ 7293034) (st : St_11 Rel) (go : lw_Go p l e s m below meth c b D ca ad0 qo cL Rel x4 cells slots 1522) : lw_Go p l e s m below meth c b D ca ad0 qo cL Rel x4 cells slots 622 := by
  obtain ⟨hx, hb, hr, hml, hown, hts, hX, hbl, hlocks, hgv⟩ := C0.1
  have hbA : ¬ (fun q : Nat => s.heap.size ≤ q) b := Nat.not_le.mpr hbl
  intro I J w M adX adM o H locs la hR hw hS hl
  obtain ⟨q, r, e1, e2, e3, hR⟩ := st I J w M (xs (x4 + 1).toNatClampNeg) hR
  refine lv_aload_n hx hb dL_law_622 rfl (lv_at hl 1 rfl) ?_
  refine lv_aload_n hx hb dL_law_623 rfl (lv_at hl 0 rfl) ?_
  refine lv_iload hx hb dL_law_624 (lv_at hl 4 rfl) ?_
  refine lv_iconst (v := 1) hx hb dL_law_626 (by decide) ?_
  refine lv_iadd hx hb dL_law_627 ?_
  refine va_sld hx hb hX hbl hbA hS hi1 dL_law_628 ?_
  refine lw_cX (As := [.int (xs (x4 + 1).toNatClampNeg)]) (v := q) (h' := (I, J, (rX w, kX, nX, 121))) (rest := []) C0 (c_X6_blocked (Nat.le_refl _) (by decide) e1) gc_RL_73 qm_X6_blocked rfl rfl qc_cl6 rfl (Nat.le_of_ble_eq_true rfl) (fun f => rfl) (by decide) rfl (Nat.le_of_ble_eq_true rfl) hce rfl (Nat.le_of_ble_eq_true rfl) hw hS hl.1 dL_law_629 (fun H locs hw hS => ?_)
  refine lv_aload_n hx hb dL_law_632 rfl (lv_at hl 2 rfl) ?_
  refine lv_aload_n hx hb dL_law_633 rfl (lv_at hl 0 rfl) ?_
  refine lv_iload hx hb dL_law_634 (lv_at hl 4 rfl) ?_
  refine lv_iconst (v := 1) hx hb dL_law_636 (by decide) ?_
  refine lv_iadd hx hb dL_law_637 ?_
  refine va_sld hx hb hX hbl hbA hS hi1 dL_law_638 ?_
  refine lw_cM (As := [.int (xs (x4 + 1).toNatClampNeg)]) (v := r.1) (h' := (r.2, (fun _ _ => 0), shM)) (rest := [.int q]) C0 (c_X7_blocked e2) gc_RL_76 qm_X7_blocked rfl rfl qc_cl7 rfl (Nat.le_of_ble_eq_true rfl) (fun f => rfl) (by decide) rfl (Nat.le_of_ble_eq_true rfl) hce rfl (Nat.le_of_ble_eq_true rfl) hw hS hl.1 dL_law_639 (fun H locs hw hS => ?_)
  refine lv_icmp_eq (tgt := 1522) hx hb dL_law_642 (by decide) (fun _ => ?_) (fun c9 => absurd e3 c9)
  exact go _ _ _ _ adX adM o H locs la hR hw hS hl
theorem lw_k12 {p : Program} {l : Launch} {e : Env} {s : State} {m : MethodId} {below : List Frame} {meth : Method} {c : Code} {b L : Nat} {xs : Nat → Int32} {D : va_G} {ca : Nat → ClassId} {ad0 : Nat → Nat} {qo : Nat} {cL : ClassId} {Rel : (Nat → Nat → Int32) → (Nat → Nat → Int64) → (Nat → Nat) → (Nat → Nat → Int32) → Prop} {x4 : Int32} {cells slots : Nat} (C0 : lw_C p s m meth c b L xs D ca ad0) (hi1 : vp_in (x4 + 1) L) (hi2 : vp_in (x4 + 2) L) (hi3 : vp_in (x4 + 3) L) (hi4 : vp_in (x4 + 4) L) (hi5 : vp_in (x4 + 5) L) (hce : cells ≤ 601024 ∧ slots ≤ 7293034) (st : St_12 Rel) (go : lw_Go p l e s m below meth c b D ca ad0 qo cL Rel x4 cells slots 1522) : lw_Go p l e s m below meth c b D ca ad0 qo cL Rel x4 cells slots 647 := by
  obtain ⟨hx, hb, hr, hml, hown, hts, hX, hbl, hlocks, hgv⟩ := C0.1
  have hbA : ¬ (fun q : Nat => s.heap.size ≤ q) b := Nat.not_le.mpr hbl
  intro I J w M adX adM o H locs la hR hw hS hl
  obtain ⟨q, r, e1, e2, e3, hR⟩ := st I J w M (xs (x4 + 1).toNatClampNeg) hR
  refine lv_aload_n hx hb dL_law_647 rfl (lv_at hl 1 rfl) ?_
  refine lv_aload_n hx hb dL_law_648 rfl (lv_at hl 0 rfl) ?_
  refine lv_iload hx hb dL_law_649 (lv_at hl 4 rfl) ?_
  refine lv_iconst (v := 1) hx hb dL_law_651 (by decide) ?_
  refine lv_iadd hx hb dL_law_652 ?_
  refine va_sld hx hb hX hbl hbA hS hi1 dL_law_653 ?_
  refine lw_cX (As := [.int (xs (x4 + 1).toNatClampNeg)]) (v := q.1) (h' := (q.2.1, q.2.2, (rX w, kX, nX, 121))) (rest := []) C0 (c_X6_products (Nat.le_refl _) (by decide) e1) gc_RL_77 qm_X6_products rfl rfl qc_cl6 rfl (Nat.le_of_ble_eq_true rfl) (fun f => rfl) (by decide) rfl (Nat.le_of_ble_eq_true rfl) hce rfl (Nat.le_of_ble_eq_true rfl) hw hS hl.1 dL_law_654 (fun H locs hw hS => ?_)
  refine lv_aload_n hx hb dL_law_657 rfl (lv_at hl 2 rfl) ?_
  refine lv_aload_n hx hb dL_law_658 rfl (lv_at hl 0 rfl) ?_
  refine lv_iload hx hb dL_law_659 (lv_at hl 4 rfl) ?_
  refine lv_iconst (v := 1) hx hb dL_law_661 (by decide) ?_
  refine lv_iadd hx hb dL_law_662 ?_
  refine va_sld hx hb hX hbl hbA hS hi1 dL_law_663 ?_
  refine lw_cM (As := [.int (xs (x4 + 1).toNatClampNeg)]) (v := r.1) (h' := (r.2, (fun _ _ => 0), shM)) (rest := [.int q.1]) C0 (c_X7_products e2) gc_RL_80 qm_X7_products rfl rfl qc_cl7 rfl (Nat.le_of_ble_eq_true rfl) (fun f => rfl) (by decide) rfl (Nat.le_of_ble_eq_true rfl) hce rfl (Nat.le_of_ble_eq_true rfl) hw hS hl.1 dL_law_664 (fun H locs hw hS => ?_)
  refine lv_icmp_eq (tgt := 1522) hx hb dL_law_667 (by decide) (fun _ => ?_) (fun c9 => absurd e3 c9)
  exact go _ _ _ _ adX adM o H locs la hR hw hS hl
theorem lw_k13 {p : Program} {l : Launch} {e : Env} {s : State} {m : MethodId} {below : List Frame} {meth : Method} {c : Code} {b L : Nat} {xs : Nat → Int32} {D : va_G} {ca : Nat → ClassId} {ad0 : Nat → Nat} {qo : Nat} {cL : ClassId} {Rel : (Nat → Nat → Int32) → (Nat → Nat → Int64) → (Nat → Nat) → (Nat → Nat → Int32) → Prop} {x4 : Int32} {cells slots : Nat} (C0 : lw_C p s m meth c b L xs D ca ad0) (hi1 : vp_in (x4 + 1) L) (hi2 : vp_in (x4 + 2) L) (hi3 : vp_in (x4 + 3) L) (hi4 : vp_in (x4 + 4) L) (hi5 : vp_in (x4 + 5) L) (hce : cells ≤ 601024 ∧ slots ≤ 7293034) (st : St_13 Rel) (go : lw_Go p l e s m below meth c b D ca ad0 qo cL Rel x4 cells slots 1522) : lw_Go p l e s m below meth c b D ca ad0 qo cL Rel x4 cells slots 672 := by
  obtain ⟨hx, hb, hr, hml, hown, hts, hX, hbl, hlocks, hgv⟩ := C0.1
  have hbA : ¬ (fun q : Nat => s.heap.size ≤ q) b := Nat.not_le.mpr hbl
  intro I J w M adX adM o H locs la hR hw hS hl
  obtain ⟨q, r, e1, e2, e3, hR⟩ := st I J w M (xs (x4 + 1).toNatClampNeg) (xs (x4 + 2).toNatClampNeg) hR
  refine lv_aload_n hx hb dL_law_672 rfl (lv_at hl 1 rfl) ?_
  refine lv_aload_n hx hb dL_law_673 rfl (lv_at hl 0 rfl) ?_
  refine lv_iload hx hb dL_law_674 (lv_at hl 4 rfl) ?_
  refine lv_iconst (v := 1) hx hb dL_law_676 (by decide) ?_
  refine lv_iadd hx hb dL_law_677 ?_
  refine va_sld hx hb hX hbl hbA hS hi1 dL_law_678 ?_
  refine lv_aload_n hx hb dL_law_679 rfl (lv_at hl 0 rfl) ?_
  refine lv_iload hx hb dL_law_680 (lv_at hl 4 rfl) ?_
  refine lv_iconst (v := 2) hx hb dL_law_682 (by decide) ?_
  refine lv_iadd hx hb dL_law_683 ?_
  refine va_sld hx hb hX hbl hbA hS hi2 dL_law_684 ?_
  refine lw_cX (As := [.int (xs (x4 + 1).toNatClampNeg), .int (xs (x4 + 2).toNatClampNeg)]) (v := q.1) (h' := (q.2.1, q.2.2, (rX w, kX, nX, 121))) (rest := []) C0 (c_X6_product (Nat.le_refl _) (by decide) e1) gc_RL_81 qm_X6_product rfl rfl qc_cl6 rfl (Nat.le_of_ble_eq_true rfl) (fun f => rfl) (by decide) rfl (Nat.le_of_ble_eq_true rfl) hce rfl (Nat.le_of_ble_eq_true rfl) hw hS hl.1 dL_law_685 (fun H locs hw hS => ?_)
  refine lv_aload_n hx hb dL_law_688 rfl (lv_at hl 2 rfl) ?_
  refine lv_aload_n hx hb dL_law_689 rfl (lv_at hl 0 rfl) ?_
  refine lv_iload hx hb dL_law_690 (lv_at hl 4 rfl) ?_
  refine lv_iconst (v := 1) hx hb dL_law_692 (by decide) ?_
  refine lv_iadd hx hb dL_law_693 ?_
  refine va_sld hx hb hX hbl hbA hS hi1 dL_law_694 ?_
  refine lv_aload_n hx hb dL_law_695 rfl (lv_at hl 0 rfl) ?_
  refine lv_iload hx hb dL_law_696 (lv_at hl 4 rfl) ?_
  refine lv_iconst (v := 2) hx hb dL_law_698 (by decide) ?_
  refine lv_iadd hx hb dL_law_699 ?_
  refine va_sld hx hb hX hbl hbA hS hi2 dL_law_700 ?_
  refine lw_cM (As := [.int (xs (x4 + 1).toNatClampNeg), .int (xs (x4 + 2).toNatClampNeg)]) (v := r.1) (h' := (r.2, (fun _ _ => 0), shM)) (rest := [.int q.1]) C0 (c_X7_product e2) gc_RL_84 qm_X7_product rfl rfl qc_cl7 rfl (Nat.le_of_ble_eq_true rfl) (fun f => rfl) (by decide) rfl (Nat.le_of_ble_eq_true rfl) hce rfl (Nat.le_of_ble_eq_true rfl) hw hS hl.1 dL_law_701 (fun H locs hw hS => ?_)
  refine lv_icmp_eq (tgt := 1522) hx hb dL_law_704 (by decide) (fun _ => ?_) (fun c9 => absurd e3 c9)
  exact go _ _ _ _ adX adM o H locs la hR hw hS hl
theorem lw_k14 {p : Program} {l : Launch} {e : Env} {s : State} {m : MethodId} {below : List Frame} {meth : Method} {c : Code} {b L : Nat} {xs : Nat → Int32} {D : va_G} {ca : Nat → ClassId} {ad0 : Nat → Nat} {qo : Nat} {cL : ClassId} {Rel : (Nat → Nat → Int32) → (Nat → Nat → Int64) → (Nat → Nat) → (Nat → Nat → Int32) → Prop} {x4 : Int32} {cells slots : Nat} (C0 : lw_C p s m meth c b L xs D ca ad0) (hi1 : vp_in (x4 + 1) L) (hi2 : vp_in (x4 + 2) L) (hi3 : vp_in (x4 + 3) L) (hi4 : vp_in (x4 + 4) L) (hi5 : vp_in (x4 + 5) L) (hce : cells ≤ 601024 ∧ slots ≤ 7293034) (st : St_14 Rel) (go : lw_Go p l e s m below meth c b D ca ad0 qo cL Rel x4 cells slots 1522) : lw_Go p l e s m below meth c b D ca ad0 qo cL Rel x4 cells slots 709 := by
  obtain ⟨hx, hb, hr, hml, hown, hts, hX, hbl, hlocks, hgv⟩ := C0.1
  have hbA : ¬ (fun q : Nat => s.heap.size ≤ q) b := Nat.not_le.mpr hbl
  intro I J w M adX adM o H locs la hR hw hS hl
  obtain ⟨q, r, e1, e2, e3, hR⟩ := st I J w M (xs (x4 + 1).toNatClampNeg) hR
  refine lv_aload_n hx hb dL_law_709 rfl (lv_at hl 1 rfl) ?_
  refine lv_aload_n hx hb dL_law_710 rfl (lv_at hl 0 rfl) ?_
  refine lv_iload hx hb dL_law_711 (lv_at hl 4 rfl) ?_
  refine lv_iconst (v := 1) hx hb dL_law_713 (by decide) ?_
  refine lv_iadd hx hb dL_law_714 ?_
  refine va_sld hx hb hX hbl hbA hS hi1 dL_law_715 ?_
  refine lw_cX (As := [.int (xs (x4 + 1).toNatClampNeg)]) (v := q.1) (h' := (q.2.1, q.2.2, (rX w, kX, nX, 121))) (rest := []) C0 (c_X6_hits (Nat.le_refl _) (by decide) e1) gc_RL_85 qm_X6_hits rfl rfl qc_cl6 rfl (Nat.le_of_ble_eq_true rfl) (fun f => rfl) (by decide) rfl (Nat.le_of_ble_eq_true rfl) hce rfl (Nat.le_of_ble_eq_true rfl) hw hS hl.1 dL_law_716 (fun H locs hw hS => ?_)
  refine lv_aload_n hx hb dL_law_719 rfl (lv_at hl 2 rfl) ?_
  refine lv_aload_n hx hb dL_law_720 rfl (lv_at hl 0 rfl) ?_
  refine lv_iload hx hb dL_law_721 (lv_at hl 4 rfl) ?_
  refine lv_iconst (v := 1) hx hb dL_law_723 (by decide) ?_
  refine lv_iadd hx hb dL_law_724 ?_
  refine va_sld hx hb hX hbl hbA hS hi1 dL_law_725 ?_
  refine lw_cM (As := [.int (xs (x4 + 1).toNatClampNeg)]) (v := r.1) (h' := (r.2, (fun _ _ => 0), shM)) (rest := [.int q.1]) C0 (c_X7_hits_ e2) gc_RL_88 qm_X7_hits_ rfl rfl qc_cl7 rfl (Nat.le_of_ble_eq_true rfl) (fun f => rfl) (by decide) rfl (Nat.le_of_ble_eq_true rfl) hce rfl (Nat.le_of_ble_eq_true rfl) hw hS hl.1 dL_law_726 (fun H locs hw hS => ?_)
  refine lv_icmp_eq (tgt := 1522) hx hb dL_law_729 (by decide) (fun _ => ?_) (fun c9 => absurd e3 c9)
  exact go _ _ _ _ adX adM o H locs la hR hw hS hl
theorem lw_k15 {p : Program} {l : Launch} {e : Env} {s : State} {m : MethodId} {below : List Frame} {meth : Method} {c : Code} {b L : Nat} {xs : Nat → Int32} {D : va_G} {ca : Nat → ClassId} {ad0 : Nat → Nat} {qo : Nat} {cL : ClassId} {Rel : (Nat → Nat → Int32) → (Nat → Nat → Int64) → (Nat → Nat) → (Nat → Nat → Int32) → Prop} {x4 : Int32} {cells slots : Nat} (C0 : lw_C p s m meth c b L xs D ca ad0) (hi1 : vp_in (x4 + 1) L) (hi2 : vp_in (x4 + 2) L) (hi3 : vp_in (x4 + 3) L) (hi4 : vp_in (x4 + 4) L) (hi5 : vp_in (x4 + 5) L) (hce : cells ≤ 601024 ∧ slots ≤ 7293034) (st : St_15 Rel) (go : lw_Go p l e s m below meth c b D ca ad0 qo cL Rel x4 cells slots 1522) : lw_Go p l e s m below meth c b D ca ad0 qo cL Rel x4 cells slots 734 := by
  obtain ⟨hx, hb, hr, hml, hown, hts, hX, hbl, hlocks, hgv⟩ := C0.1
  have hbA : ¬ (fun q : Nat => s.heap.size ≤ q) b := Nat.not_le.mpr hbl
  intro I J w M adX adM o H locs la hR hw hS hl
  obtain ⟨q, r, e1, e2, e3, hR⟩ := st I J w M (xs (x4 + 1).toNatClampNeg) (xs (x4 + 2).toNatClampNeg) hR
  refine lv_aload_n hx hb dL_law_734 rfl (lv_at hl 1 rfl) ?_
  refine lv_aload_n hx hb dL_law_735 rfl (lv_at hl 0 rfl) ?_
  refine lv_iload hx hb dL_law_736 (lv_at hl 4 rfl) ?_
  refine lv_iconst (v := 1) hx hb dL_law_738 (by decide) ?_
  refine lv_iadd hx hb dL_law_739 ?_
  refine va_sld hx hb hX hbl hbA hS hi1 dL_law_740 ?_
  refine lv_aload_n hx hb dL_law_741 rfl (lv_at hl 0 rfl) ?_
  refine lv_iload hx hb dL_law_742 (lv_at hl 4 rfl) ?_
  refine lv_iconst (v := 2) hx hb dL_law_744 (by decide) ?_
  refine lv_iadd hx hb dL_law_745 ?_
  refine va_sld hx hb hX hbl hbA hS hi2 dL_law_746 ?_
  refine lw_cX (As := [.int (xs (x4 + 1).toNatClampNeg), .int (xs (x4 + 2).toNatClampNeg)]) (v := q.1) (h' := (q.2.1, q.2.2, (rX w, kX, nX, 121))) (rest := []) C0 (c_X6_hitBy (Nat.le_refl _) (by decide) e1) gc_RL_89 qm_X6_hitBy rfl rfl qc_cl6 rfl (Nat.le_of_ble_eq_true rfl) (fun f => rfl) (by decide) rfl (Nat.le_of_ble_eq_true rfl) hce rfl (Nat.le_of_ble_eq_true rfl) hw hS hl.1 dL_law_747 (fun H locs hw hS => ?_)
  refine lv_aload_n hx hb dL_law_750 rfl (lv_at hl 2 rfl) ?_
  refine lv_aload_n hx hb dL_law_751 rfl (lv_at hl 0 rfl) ?_
  refine lv_iload hx hb dL_law_752 (lv_at hl 4 rfl) ?_
  refine lv_iconst (v := 1) hx hb dL_law_754 (by decide) ?_
  refine lv_iadd hx hb dL_law_755 ?_
  refine va_sld hx hb hX hbl hbA hS hi1 dL_law_756 ?_
  refine lv_aload_n hx hb dL_law_757 rfl (lv_at hl 0 rfl) ?_
  refine lv_iload hx hb dL_law_758 (lv_at hl 4 rfl) ?_
  refine lv_iconst (v := 2) hx hb dL_law_760 (by decide) ?_
  refine lv_iadd hx hb dL_law_761 ?_
  refine va_sld hx hb hX hbl hbA hS hi2 dL_law_762 ?_
  refine lw_cM (As := [.int (xs (x4 + 1).toNatClampNeg), .int (xs (x4 + 2).toNatClampNeg)]) (v := r.1) (h' := (r.2, (fun _ _ => 0), shM)) (rest := [.int q.1]) C0 (c_X7_hitBy e2) gc_RL_92 qm_X7_hitBy rfl rfl qc_cl7 rfl (Nat.le_of_ble_eq_true rfl) (fun f => rfl) (by decide) rfl (Nat.le_of_ble_eq_true rfl) hce rfl (Nat.le_of_ble_eq_true rfl) hw hS hl.1 dL_law_763 (fun H locs hw hS => ?_)
  refine lv_icmp_eq (tgt := 1522) hx hb dL_law_766 (by decide) (fun _ => ?_) (fun c9 => absurd e3 c9)
  exact go _ _ _ _ adX adM o H locs la hR hw hS hl
theorem lw_k16 {p : Program} {l : Launch} {e : Env} {s : State} {m : MethodId} {below : List Frame} {meth : Method} {c : Code} {b L : Nat} {xs : Nat → Int32} {D : va_G} {ca : Nat → ClassId} {ad0 : Nat → Nat} {qo : Nat} {cL : ClassId} {Rel : (Nat → Nat → Int32) → (Nat → Nat → Int64) → (Nat → Nat) → (Nat → Nat → Int32) → Prop} {x4 : Int32} {cells slots : Nat} (C0 : lw_C p s m meth c b L xs D ca ad0) (hi1 : vp_in (x4 + 1) L) (hi2 : vp_in (x4 + 2) L) (hi3 : vp_in (x4 + 3) L) (hi4 : vp_in (x4 + 4) L) (hi5 : vp_in (x4 + 5) L) (hce : cells ≤ 601024 ∧ slots ≤ 7293034) (st : St_16 Rel) (go : lw_Go p l e s m below meth c b D ca ad0 qo cL Rel x4 cells slots 1522) : lw_Go p l e s m below meth c b D ca ad0 qo cL Rel x4 cells slots 771 := by
  obtain ⟨hx, hb, hr, hml, hown, hts, hX, hbl, hlocks, hgv⟩ := C0.1
  have hbA : ¬ (fun q : Nat => s.heap.size ≤ q) b := Nat.not_le.mpr hbl
  intro I J w M adX adM o H locs la hR hw hS hl
  obtain ⟨q, r, e1, e2, e3, hR⟩ := st I J w M (xs (x4 + 1).toNatClampNeg) hR
  refine lv_aload_n hx hb dL_law_771 rfl (lv_at hl 1 rfl) ?_
  refine lv_aload_n hx hb dL_law_772 rfl (lv_at hl 0 rfl) ?_
  refine lv_iload hx hb dL_law_773 (lv_at hl 4 rfl) ?_
  refine lv_iconst (v := 1) hx hb dL_law_775 (by decide) ?_
  refine lv_iadd hx hb dL_law_776 ?_
  refine va_sld hx hb hX hbl hbA hS hi1 dL_law_777 ?_
  refine lw_cX (As := [.int (xs (x4 + 1).toNatClampNeg)]) (v := q) (h' := (I, J, (rX w, kX, nX, 121))) (rest := []) C0 (c_X6_crowds (Nat.le_refl _) (by decide) e1) gc_RL_93 qm_X6_crowds rfl rfl qc_cl6 rfl (Nat.le_of_ble_eq_true rfl) (fun f => rfl) (by decide) rfl (Nat.le_of_ble_eq_true rfl) hce rfl (Nat.le_of_ble_eq_true rfl) hw hS hl.1 dL_law_778 (fun H locs hw hS => ?_)
  refine lv_aload_n hx hb dL_law_781 rfl (lv_at hl 2 rfl) ?_
  refine lv_aload_n hx hb dL_law_782 rfl (lv_at hl 0 rfl) ?_
  refine lv_iload hx hb dL_law_783 (lv_at hl 4 rfl) ?_
  refine lv_iconst (v := 1) hx hb dL_law_785 (by decide) ?_
  refine lv_iadd hx hb dL_law_786 ?_
  refine va_sld hx hb hX hbl hbA hS hi1 dL_law_787 ?_
  refine lw_cM (As := [.int (xs (x4 + 1).toNatClampNeg)]) (v := r.1) (h' := (r.2, (fun _ _ => 0), shM)) (rest := [.int q]) C0 (c_X7_crowds e2) gc_RL_96 qm_X7_crowds rfl rfl qc_cl7 rfl (Nat.le_of_ble_eq_true rfl) (fun f => rfl) (by decide) rfl (Nat.le_of_ble_eq_true rfl) hce rfl (Nat.le_of_ble_eq_true rfl) hw hS hl.1 dL_law_788 (fun H locs hw hS => ?_)
  refine lv_icmp_eq (tgt := 1522) hx hb dL_law_791 (by decide) (fun _ => ?_) (fun c9 => absurd e3 c9)
  exact go _ _ _ _ adX adM o H locs la hR hw hS hl
theorem lw_k17 {p : Program} {l : Launch} {e : Env} {s : State} {m : MethodId} {below : List Frame} {meth : Method} {c : Code} {b L : Nat} {xs : Nat → Int32} {D : va_G} {ca : Nat → ClassId} {ad0 : Nat → Nat} {qo : Nat} {cL : ClassId} {Rel : (Nat → Nat → Int32) → (Nat → Nat → Int64) → (Nat → Nat) → (Nat → Nat → Int32) → Prop} {x4 : Int32} {cells slots : Nat} (C0 : lw_C p s m meth c b L xs D ca ad0) (hi1 : vp_in (x4 + 1) L) (hi2 : vp_in (x4 + 2) L) (hi3 : vp_in (x4 + 3) L) (hi4 : vp_in (x4 + 4) L) (hi5 : vp_in (x4 + 5) L) (hce : cells ≤ 601024 ∧ slots ≤ 7293034) (st : St_17 Rel) (go : lw_Go p l e s m below meth c b D ca ad0 qo cL Rel x4 cells slots 1522) : lw_Go p l e s m below meth c b D ca ad0 qo cL Rel x4 cells slots 796 := by
  obtain ⟨hx, hb, hr, hml, hown, hts, hX, hbl, hlocks, hgv⟩ := C0.1
  have hbA : ¬ (fun q : Nat => s.heap.size ≤ q) b := Nat.not_le.mpr hbl
  intro I J w M adX adM o H locs la hR hw hS hl
  obtain ⟨q, r, e1, e2, e3, hR⟩ := st I J w M  hR
  refine lv_aload_n hx hb dL_law_796 rfl (lv_at hl 1 rfl) ?_
  refine lw_cX (As := []) (v := q.1) (h' := (q.2.1, q.2.2, (rX w, kX, nX, 121))) (rest := []) C0 (c_X6_clean (Nat.le_refl _) (by decide) e1) gc_RL_97 qm_X6_clean rfl rfl qc_cl6 rfl (Nat.le_of_ble_eq_true rfl) (fun f => rfl) (by decide) rfl (Nat.le_of_ble_eq_true rfl) hce rfl (Nat.le_of_ble_eq_true rfl) hw hS hl.1 dL_law_797 (fun H locs hw hS => ?_)
  refine lv_aload_n hx hb dL_law_800 rfl (lv_at hl 2 rfl) ?_
  refine lw_cM (As := []) (v := r.1) (h' := (r.2, (fun _ _ => 0), shM)) (rest := [.int q.1]) C0 (c_X7_clean e2) gc_RL_100 qm_X7_clean rfl rfl qc_cl7 rfl (Nat.le_of_ble_eq_true rfl) (fun f => rfl) (by decide) rfl (Nat.le_of_ble_eq_true rfl) hce rfl (Nat.le_of_ble_eq_true rfl) hw hS hl.1 dL_law_801 (fun H locs hw hS => ?_)
  refine lv_icmp_eq (tgt := 1522) hx hb dL_law_804 (by decide) (fun _ => ?_) (fun c9 => absurd e3 c9)
  exact go _ _ _ _ adX adM o H locs la hR hw hS hl
theorem lw_k18 {p : Program} {l : Launch} {e : Env} {s : State} {m : MethodId} {below : List Frame} {meth : Method} {c : Code} {b L : Nat} {xs : Nat → Int32} {D : va_G} {ca : Nat → ClassId} {ad0 : Nat → Nat} {qo : Nat} {cL : ClassId} {Rel : (Nat → Nat → Int32) → (Nat → Nat → Int64) → (Nat → Nat) → (Nat → Nat → Int32) → Prop} {x4 : Int32} {cells slots : Nat} (C0 : lw_C p s m meth c b L xs D ca ad0) (hi1 : vp_in (x4 + 1) L) (hi2 : vp_in (x4 + 2) L) (hi3 : vp_in (x4 + 3) L) (hi4 : vp_in (x4 + 4) L) (hi5 : vp_in (x4 + 5) L) (hce : cells ≤ 601024 ∧ slots ≤ 7293034) (st : St_18 Rel) (go : lw_Go p l e s m below meth c b D ca ad0 qo cL Rel x4 cells slots 1522) : lw_Go p l e s m below meth c b D ca ad0 qo cL Rel x4 cells slots 809 := by
  obtain ⟨hx, hb, hr, hml, hown, hts, hX, hbl, hlocks, hgv⟩ := C0.1
  have hbA : ¬ (fun q : Nat => s.heap.size ≤ q) b := Nat.not_le.mpr hbl
  intro I J w M adX adM o H locs la hR hw hS hl
  obtain ⟨q, r, e1, e2, e3, hR⟩ := st I J w M (xs (x4 + 1).toNatClampNeg) (xs (x4 + 2).toNatClampNeg) hR
  refine lv_aload_n hx hb dL_law_809 rfl (lv_at hl 1 rfl) ?_
  refine lv_aload_n hx hb dL_law_810 rfl (lv_at hl 0 rfl) ?_
  refine lv_iload hx hb dL_law_811 (lv_at hl 4 rfl) ?_
  refine lv_iconst (v := 1) hx hb dL_law_813 (by decide) ?_
  refine lv_iadd hx hb dL_law_814 ?_
  refine va_sld hx hb hX hbl hbA hS hi1 dL_law_815 ?_
  refine lv_aload_n hx hb dL_law_816 rfl (lv_at hl 0 rfl) ?_
  refine lv_iload hx hb dL_law_817 (lv_at hl 4 rfl) ?_
  refine lv_iconst (v := 2) hx hb dL_law_819 (by decide) ?_
  refine lv_iadd hx hb dL_law_820 ?_
  refine va_sld hx hb hX hbl hbA hS hi2 dL_law_821 ?_
  refine lw_cX (As := [.int (xs (x4 + 1).toNatClampNeg), .int (xs (x4 + 2).toNatClampNeg)]) (v := q.1) (h' := (q.2.1, q.2.2, (rX w, kX, nX, 121))) (rest := []) C0 (c_X6_fits (Nat.le_refl _) (by decide) e1) gc_RL_101 qm_X6_fits rfl rfl qc_cl6 rfl (Nat.le_of_ble_eq_true rfl) (fun f => rfl) (by decide) rfl (Nat.le_of_ble_eq_true rfl) hce rfl (Nat.le_of_ble_eq_true rfl) hw hS hl.1 dL_law_822 (fun H locs hw hS => ?_)
  refine lv_aload_n hx hb dL_law_825 rfl (lv_at hl 2 rfl) ?_
  refine lv_aload_n hx hb dL_law_826 rfl (lv_at hl 0 rfl) ?_
  refine lv_iload hx hb dL_law_827 (lv_at hl 4 rfl) ?_
  refine lv_iconst (v := 1) hx hb dL_law_829 (by decide) ?_
  refine lv_iadd hx hb dL_law_830 ?_
  refine va_sld hx hb hX hbl hbA hS hi1 dL_law_831 ?_
  refine lv_aload_n hx hb dL_law_832 rfl (lv_at hl 0 rfl) ?_
  refine lv_iload hx hb dL_law_833 (lv_at hl 4 rfl) ?_
  refine lv_iconst (v := 2) hx hb dL_law_835 (by decide) ?_
  refine lv_iadd hx hb dL_law_836 ?_
  refine va_sld hx hb hX hbl hbA hS hi2 dL_law_837 ?_
  refine lw_cM (As := [.int (xs (x4 + 1).toNatClampNeg), .int (xs (x4 + 2).toNatClampNeg)]) (v := r.1) (h' := (r.2, (fun _ _ => 0), shM)) (rest := [.int q.1]) C0 (c_X7_fits e2) gc_RL_104 qm_X7_fits rfl rfl qc_cl7 rfl (Nat.le_of_ble_eq_true rfl) (fun f => rfl) (by decide) rfl (Nat.le_of_ble_eq_true rfl) hce rfl (Nat.le_of_ble_eq_true rfl) hw hS hl.1 dL_law_838 (fun H locs hw hS => ?_)
  refine lv_icmp_eq (tgt := 1522) hx hb dL_law_841 (by decide) (fun _ => ?_) (fun c9 => absurd e3 c9)
  exact go _ _ _ _ adX adM o H locs la hR hw hS hl
theorem lw_k19 {p : Program} {l : Launch} {e : Env} {s : State} {m : MethodId} {below : List Frame} {meth : Method} {c : Code} {b L : Nat} {xs : Nat → Int32} {D : va_G} {ca : Nat → ClassId} {ad0 : Nat → Nat} {qo : Nat} {cL : ClassId} {Rel : (Nat → Nat → Int32) → (Nat → Nat → Int64) → (Nat → Nat) → (Nat → Nat → Int32) → Prop} {x4 : Int32} {cells slots : Nat} (C0 : lw_C p s m meth c b L xs D ca ad0) (hi1 : vp_in (x4 + 1) L) (hi2 : vp_in (x4 + 2) L) (hi3 : vp_in (x4 + 3) L) (hi4 : vp_in (x4 + 4) L) (hi5 : vp_in (x4 + 5) L) (hce : cells ≤ 601024 ∧ slots ≤ 7293034) (st : St_19 Rel) (go : lw_Go p l e s m below meth c b D ca ad0 qo cL Rel x4 cells slots 1522) : lw_Go p l e s m below meth c b D ca ad0 qo cL Rel x4 cells slots 846 := by
  obtain ⟨hx, hb, hr, hml, hown, hts, hX, hbl, hlocks, hgv⟩ := C0.1
  have hbA : ¬ (fun q : Nat => s.heap.size ≤ q) b := Nat.not_le.mpr hbl
  intro I J w M adX adM o H locs la hR hw hS hl
  obtain ⟨q, r, e1, e2, e3, hR⟩ := st I J w M (xs (x4 + 1).toNatClampNeg) hR
  refine lv_aload_n hx hb dL_law_846 rfl (lv_at hl 1 rfl) ?_
  refine lv_aload_n hx hb dL_law_847 rfl (lv_at hl 0 rfl) ?_
  refine lv_iload hx hb dL_law_848 (lv_at hl 4 rfl) ?_
  refine lv_iconst (v := 1) hx hb dL_law_850 (by decide) ?_
  refine lv_iadd hx hb dL_law_851 ?_
  refine va_sld hx hb hX hbl hbA hS hi1 dL_law_852 ?_
  refine lw_cX (As := [.int (xs (x4 + 1).toNatClampNeg)]) (v := q.1) (h' := (q.2.1, q.2.2, (rX w, kX, nX, 121))) (rest := []) C0 (c_X6_free (Nat.le_refl _) (by decide) e1) gc_RL_105 qm_X6_free rfl rfl qc_cl6 rfl (Nat.le_of_ble_eq_true rfl) (fun f => rfl) (by decide) rfl (Nat.le_of_ble_eq_true rfl) hce rfl (Nat.le_of_ble_eq_true rfl) hw hS hl.1 dL_law_853 (fun H locs hw hS => ?_)
  refine lv_aload_n hx hb dL_law_856 rfl (lv_at hl 2 rfl) ?_
  refine lv_aload_n hx hb dL_law_857 rfl (lv_at hl 0 rfl) ?_
  refine lv_iload hx hb dL_law_858 (lv_at hl 4 rfl) ?_
  refine lv_iconst (v := 1) hx hb dL_law_860 (by decide) ?_
  refine lv_iadd hx hb dL_law_861 ?_
  refine va_sld hx hb hX hbl hbA hS hi1 dL_law_862 ?_
  refine lw_cM (As := [.int (xs (x4 + 1).toNatClampNeg)]) (v := r.1) (h' := (r.2, (fun _ _ => 0), shM)) (rest := [.int q.1]) C0 (c_X7_free e2) gc_RL_108 qm_X7_free rfl rfl qc_cl7 rfl (Nat.le_of_ble_eq_true rfl) (fun f => rfl) (by decide) rfl (Nat.le_of_ble_eq_true rfl) hce rfl (Nat.le_of_ble_eq_true rfl) hw hS hl.1 dL_law_863 (fun H locs hw hS => ?_)
  refine lv_icmp_eq (tgt := 1522) hx hb dL_law_866 (by decide) (fun _ => ?_) (fun c9 => absurd e3 c9)
  exact go _ _ _ _ adX adM o H locs la hR hw hS hl
theorem lw_k20 {p : Program} {l : Launch} {e : Env} {s : State} {m : MethodId} {below : List Frame} {meth : Method} {c : Code} {b L : Nat} {xs : Nat → Int32} {D : va_G} {ca : Nat → ClassId} {ad0 : Nat → Nat} {qo : Nat} {cL : ClassId} {Rel : (Nat → Nat → Int32) → (Nat → Nat → Int64) → (Nat → Nat) → (Nat → Nat → Int32) → Prop} {x4 : Int32} {cells slots : Nat} (C0 : lw_C p s m meth c b L xs D ca ad0) (hi1 : vp_in (x4 + 1) L) (hi2 : vp_in (x4 + 2) L) (hi3 : vp_in (x4 + 3) L) (hi4 : vp_in (x4 + 4) L) (hi5 : vp_in (x4 + 5) L) (hce : cells ≤ 601024 ∧ slots ≤ 7293034) (st : St_20 Rel) (go : lw_Go p l e s m below meth c b D ca ad0 qo cL Rel x4 cells slots 1522) : lw_Go p l e s m below meth c b D ca ad0 qo cL Rel x4 cells slots 871 := by
  obtain ⟨hx, hb, hr, hml, hown, hts, hX, hbl, hlocks, hgv⟩ := C0.1
  have hbA : ¬ (fun q : Nat => s.heap.size ≤ q) b := Nat.not_le.mpr hbl
  intro I J w M adX adM o H locs la hR hw hS hl
  obtain ⟨q, r, e1, e2, e3, hR⟩ := st I J w M (xs (x4 + 1).toNatClampNeg) (xs (x4 + 2).toNatClampNeg) hR
  refine lv_aload_n hx hb dL_law_871 rfl (lv_at hl 1 rfl) ?_
  refine lv_aload_n hx hb dL_law_872 rfl (lv_at hl 0 rfl) ?_
  refine lv_iload hx hb dL_law_873 (lv_at hl 4 rfl) ?_
  refine lv_iconst (v := 1) hx hb dL_law_875 (by decide) ?_
  refine lv_iadd hx hb dL_law_876 ?_
  refine va_sld hx hb hX hbl hbA hS hi1 dL_law_877 ?_
  refine lv_aload_n hx hb dL_law_878 rfl (lv_at hl 0 rfl) ?_
  refine lv_iload hx hb dL_law_879 (lv_at hl 4 rfl) ?_
  refine lv_iconst (v := 2) hx hb dL_law_881 (by decide) ?_
  refine lv_iadd hx hb dL_law_882 ?_
  refine va_sld hx hb hX hbl hbA hS hi2 dL_law_883 ?_
  refine lw_cX (As := [.int (xs (x4 + 1).toNatClampNeg), .int (xs (x4 + 2).toNatClampNeg)]) (v := q.1) (h' := (q.2.1, q.2.2, (rX w, kX, nX, 121))) (rest := []) C0 (c_X6_freeAt (Nat.le_refl _) (by decide) e1) gc_RL_109 qm_X6_freeAt rfl rfl qc_cl6 rfl (Nat.le_of_ble_eq_true rfl) (fun f => rfl) (by decide) rfl (Nat.le_of_ble_eq_true rfl) hce rfl (Nat.le_of_ble_eq_true rfl) hw hS hl.1 dL_law_884 (fun H locs hw hS => ?_)
  refine lv_aload_n hx hb dL_law_887 rfl (lv_at hl 2 rfl) ?_
  refine lv_aload_n hx hb dL_law_888 rfl (lv_at hl 0 rfl) ?_
  refine lv_iload hx hb dL_law_889 (lv_at hl 4 rfl) ?_
  refine lv_iconst (v := 1) hx hb dL_law_891 (by decide) ?_
  refine lv_iadd hx hb dL_law_892 ?_
  refine va_sld hx hb hX hbl hbA hS hi1 dL_law_893 ?_
  refine lv_aload_n hx hb dL_law_894 rfl (lv_at hl 0 rfl) ?_
  refine lv_iload hx hb dL_law_895 (lv_at hl 4 rfl) ?_
  refine lv_iconst (v := 2) hx hb dL_law_897 (by decide) ?_
  refine lv_iadd hx hb dL_law_898 ?_
  refine va_sld hx hb hX hbl hbA hS hi2 dL_law_899 ?_
  refine lw_cM (As := [.int (xs (x4 + 1).toNatClampNeg), .int (xs (x4 + 2).toNatClampNeg)]) (v := r.1) (h' := (r.2, (fun _ _ => 0), shM)) (rest := [.int q.1]) C0 (c_X7_freeAt e2) gc_RL_112 qm_X7_freeAt rfl rfl qc_cl7 rfl (Nat.le_of_ble_eq_true rfl) (fun f => rfl) (by decide) rfl (Nat.le_of_ble_eq_true rfl) hce rfl (Nat.le_of_ble_eq_true rfl) hw hS hl.1 dL_law_900 (fun H locs hw hS => ?_)
  refine lv_icmp_eq (tgt := 1522) hx hb dL_law_903 (by decide) (fun _ => ?_) (fun c9 => absurd e3 c9)
  exact go _ _ _ _ adX adM o H locs la hR hw hS hl
theorem lw_k21 {p : Program} {l : Launch} {e : Env} {s : State} {m : MethodId} {below : List Frame} {meth : Method} {c : Code} {b L : Nat} {xs : Nat → Int32} {D : va_G} {ca : Nat → ClassId} {ad0 : Nat → Nat} {qo : Nat} {cL : ClassId} {Rel : (Nat → Nat → Int32) → (Nat → Nat → Int64) → (Nat → Nat) → (Nat → Nat → Int32) → Prop} {x4 : Int32} {cells slots : Nat} (C0 : lw_C p s m meth c b L xs D ca ad0) (hi1 : vp_in (x4 + 1) L) (hi2 : vp_in (x4 + 2) L) (hi3 : vp_in (x4 + 3) L) (hi4 : vp_in (x4 + 4) L) (hi5 : vp_in (x4 + 5) L) (hce : cells ≤ 601024 ∧ slots ≤ 7293034) (st : St_21 Rel) (go : lw_Go p l e s m below meth c b D ca ad0 qo cL Rel x4 cells slots 1522) : lw_Go p l e s m below meth c b D ca ad0 qo cL Rel x4 cells slots 908 := by
  obtain ⟨hx, hb, hr, hml, hown, hts, hX, hbl, hlocks, hgv⟩ := C0.1
  have hbA : ¬ (fun q : Nat => s.heap.size ≤ q) b := Nat.not_le.mpr hbl
  intro I J w M adX adM o H locs la hR hw hS hl
  obtain ⟨q, r, e1, e2, e3, hR⟩ := st I J w M (xs (x4 + 1).toNatClampNeg) hR
  refine lv_aload_n hx hb dL_law_908 rfl (lv_at hl 1 rfl) ?_
  refine lv_aload_n hx hb dL_law_909 rfl (lv_at hl 0 rfl) ?_
  refine lv_iload hx hb dL_law_910 (lv_at hl 4 rfl) ?_
  refine lv_iconst (v := 1) hx hb dL_law_912 (by decide) ?_
  refine lv_iadd hx hb dL_law_913 ?_
  refine va_sld hx hb hX hbl hbA hS hi1 dL_law_914 ?_
  refine lw_cX (As := [.int (xs (x4 + 1).toNatClampNeg)]) (v := q.1) (h' := (q.2.1, q.2.2, (rX w, kX, nX, 121))) (rest := []) C0 (c_X6_quietest (Nat.le_refl _) (by decide) e1) gc_RL_113 qm_X6_quietest rfl rfl qc_cl6 rfl (Nat.le_of_ble_eq_true rfl) (fun f => rfl) (by decide) rfl (Nat.le_of_ble_eq_true rfl) hce rfl (Nat.le_of_ble_eq_true rfl) hw hS hl.1 dL_law_915 (fun H locs hw hS => ?_)
  refine lv_aload_n hx hb dL_law_918 rfl (lv_at hl 2 rfl) ?_
  refine lv_aload_n hx hb dL_law_919 rfl (lv_at hl 0 rfl) ?_
  refine lv_iload hx hb dL_law_920 (lv_at hl 4 rfl) ?_
  refine lv_iconst (v := 1) hx hb dL_law_922 (by decide) ?_
  refine lv_iadd hx hb dL_law_923 ?_
  refine va_sld hx hb hX hbl hbA hS hi1 dL_law_924 ?_
  refine lw_cM (As := [.int (xs (x4 + 1).toNatClampNeg)]) (v := r.1) (h' := (r.2, (fun _ _ => 0), shM)) (rest := [.int q.1]) C0 (c_X7_quietest e2) gc_RL_116 qm_X7_quietest rfl rfl qc_cl7 rfl (Nat.le_of_ble_eq_true rfl) (fun f => rfl) (by decide) rfl (Nat.le_of_ble_eq_true rfl) hce rfl (Nat.le_of_ble_eq_true rfl) hw hS hl.1 dL_law_925 (fun H locs hw hS => ?_)
  refine lv_icmp_eq (tgt := 1522) hx hb dL_law_928 (by decide) (fun _ => ?_) (fun c9 => absurd e3 c9)
  exact go _ _ _ _ adX adM o H locs la hR hw hS hl
theorem lw_k22 {p : Program} {l : Launch} {e : Env} {s : State} {m : MethodId} {below : List Frame} {meth : Method} {c : Code} {b L : Nat} {xs : Nat → Int32} {D : va_G} {ca : Nat → ClassId} {ad0 : Nat → Nat} {qo : Nat} {cL : ClassId} {Rel : (Nat → Nat → Int32) → (Nat → Nat → Int64) → (Nat → Nat) → (Nat → Nat → Int32) → Prop} {x4 : Int32} {cells slots : Nat} (C0 : lw_C p s m meth c b L xs D ca ad0) (hi1 : vp_in (x4 + 1) L) (hi2 : vp_in (x4 + 2) L) (hi3 : vp_in (x4 + 3) L) (hi4 : vp_in (x4 + 4) L) (hi5 : vp_in (x4 + 5) L) (hce : cells ≤ 601024 ∧ slots ≤ 7293034) (st : St_22 Rel) (go : lw_Go p l e s m below meth c b D ca ad0 qo cL Rel x4 cells slots 1522) : lw_Go p l e s m below meth c b D ca ad0 qo cL Rel x4 cells slots 933 := by
  obtain ⟨hx, hb, hr, hml, hown, hts, hX, hbl, hlocks, hgv⟩ := C0.1
  have hbA : ¬ (fun q : Nat => s.heap.size ≤ q) b := Nat.not_le.mpr hbl
  intro I J w M adX adM o H locs la hR hw hS hl
  obtain ⟨q, r, e1, e2, e3, hR⟩ := st I J w M (xs (x4 + 1).toNatClampNeg) hR
  refine lv_aload_n hx hb dL_law_933 rfl (lv_at hl 1 rfl) ?_
  refine lv_aload_n hx hb dL_law_934 rfl (lv_at hl 0 rfl) ?_
  refine lv_iload hx hb dL_law_935 (lv_at hl 4 rfl) ?_
  refine lv_iconst (v := 1) hx hb dL_law_937 (by decide) ?_
  refine lv_iadd hx hb dL_law_938 ?_
  refine va_sld hx hb hX hbl hbA hS hi1 dL_law_939 ?_
  refine lw_cX (As := [.int (xs (x4 + 1).toNatClampNeg)]) (v := q.1) (h' := (q.2.1, q.2.2, (rX w, kX, nX, 121))) (rest := []) C0 (c_X6_planned (Nat.le_refl _) (by decide) e1) gc_RL_117 qm_X6_planned rfl rfl qc_cl6 rfl (Nat.le_of_ble_eq_true rfl) (fun f => rfl) (by decide) rfl (Nat.le_of_ble_eq_true rfl) hce rfl (Nat.le_of_ble_eq_true rfl) hw hS hl.1 dL_law_940 (fun H locs hw hS => ?_)
  refine lv_aload_n hx hb dL_law_943 rfl (lv_at hl 2 rfl) ?_
  refine lv_aload_n hx hb dL_law_944 rfl (lv_at hl 0 rfl) ?_
  refine lv_iload hx hb dL_law_945 (lv_at hl 4 rfl) ?_
  refine lv_iconst (v := 1) hx hb dL_law_947 (by decide) ?_
  refine lv_iadd hx hb dL_law_948 ?_
  refine va_sld hx hb hX hbl hbA hS hi1 dL_law_949 ?_
  refine lw_cM (As := [.int (xs (x4 + 1).toNatClampNeg)]) (v := r.1) (h' := (r.2, (fun _ _ => 0), shM)) (rest := [.int q.1]) C0 (c_X7_planned e2) gc_RL_120 qm_X7_planned rfl rfl qc_cl7 rfl (Nat.le_of_ble_eq_true rfl) (fun f => rfl) (by decide) rfl (Nat.le_of_ble_eq_true rfl) hce rfl (Nat.le_of_ble_eq_true rfl) hw hS hl.1 dL_law_950 (fun H locs hw hS => ?_)
  refine lv_icmp_eq (tgt := 1522) hx hb dL_law_953 (by decide) (fun _ => ?_) (fun c9 => absurd e3 c9)
  exact go _ _ _ _ adX adM o H locs la hR hw hS hl
theorem lw_k23 {p : Program} {l : Launch} {e : Env} {s : State} {m : MethodId} {below : List Frame} {meth : Method} {c : Code} {b L : Nat} {xs : Nat → Int32} {D : va_G} {ca : Nat → ClassId} {ad0 : Nat → Nat} {qo : Nat} {cL : ClassId} {Rel : (Nat → Nat → Int32) → (Nat → Nat → Int64) → (Nat → Nat) → (Nat → Nat → Int32) → Prop} {x4 : Int32} {cells slots : Nat} (C0 : lw_C p s m meth c b L xs D ca ad0) (hi1 : vp_in (x4 + 1) L) (hi2 : vp_in (x4 + 2) L) (hi3 : vp_in (x4 + 3) L) (hi4 : vp_in (x4 + 4) L) (hi5 : vp_in (x4 + 5) L) (hce : cells ≤ 601024 ∧ slots ≤ 7293034) (st : St_23 Rel) (go : lw_Go p l e s m below meth c b D ca ad0 qo cL Rel x4 cells slots 1522) : lw_Go p l e s m below meth c b D ca ad0 qo cL Rel x4 cells slots 958 := by
  obtain ⟨hx, hb, hr, hml, hown, hts, hX, hbl, hlocks, hgv⟩ := C0.1
  have hbA : ¬ (fun q : Nat => s.heap.size ≤ q) b := Nat.not_le.mpr hbl
  intro I J w M adX adM o H locs la hR hw hS hl
  obtain ⟨q, r, e1, e2, e3, hR⟩ := st I J w M  hR
  refine lv_aload_n hx hb dL_law_958 rfl (lv_at hl 1 rfl) ?_
  refine lw_cX (As := []) (v := q.1) (h' := (q.2.1, q.2.2, (rX w, kX, nX, 121))) (rest := []) C0 (c_X6_mended (Nat.le_refl _) (by decide) e1) gc_RL_121 qm_X6_mended rfl rfl qc_cl6 rfl (Nat.le_of_ble_eq_true rfl) (fun f => rfl) (by decide) rfl (Nat.le_of_ble_eq_true rfl) hce rfl (Nat.le_of_ble_eq_true rfl) hw hS hl.1 dL_law_959 (fun H locs hw hS => ?_)
  refine lv_aload_n hx hb dL_law_962 rfl (lv_at hl 2 rfl) ?_
  refine lw_cM (As := []) (v := r.1) (h' := (r.2, (fun _ _ => 0), shM)) (rest := [.int q.1]) C0 (c_X7_mended e2) gc_RL_124 qm_X7_mended rfl rfl qc_cl7 rfl (Nat.le_of_ble_eq_true rfl) (fun f => rfl) (by decide) rfl (Nat.le_of_ble_eq_true rfl) hce rfl (Nat.le_of_ble_eq_true rfl) hw hS hl.1 dL_law_963 (fun H locs hw hS => ?_)
  refine lv_icmp_eq (tgt := 1522) hx hb dL_law_966 (by decide) (fun _ => ?_) (fun c9 => absurd e3 c9)
  exact go _ _ _ _ adX adM o H locs la hR hw hS hl
theorem lw_k24 {p : Program} {l : Launch} {e : Env} {s : State} {m : MethodId} {below : List Frame} {meth : Method} {c : Code} {b L : Nat} {xs : Nat → Int32} {D : va_G} {ca : Nat → ClassId} {ad0 : Nat → Nat} {qo : Nat} {cL : ClassId} {Rel : (Nat → Nat → Int32) → (Nat → Nat → Int64) → (Nat → Nat) → (Nat → Nat → Int32) → Prop} {x4 : Int32} {cells slots : Nat} (C0 : lw_C p s m meth c b L xs D ca ad0) (hi1 : vp_in (x4 + 1) L) (hi2 : vp_in (x4 + 2) L) (hi3 : vp_in (x4 + 3) L) (hi4 : vp_in (x4 + 4) L) (hi5 : vp_in (x4 + 5) L) (hce : cells ≤ 601024 ∧ slots ≤ 7293034) (st : St_24 Rel) (go : lw_Go p l e s m below meth c b D ca ad0 qo cL Rel x4 cells slots 1522) : lw_Go p l e s m below meth c b D ca ad0 qo cL Rel x4 cells slots 971 := by
  obtain ⟨hx, hb, hr, hml, hown, hts, hX, hbl, hlocks, hgv⟩ := C0.1
  have hbA : ¬ (fun q : Nat => s.heap.size ≤ q) b := Nat.not_le.mpr hbl
  intro I J w M adX adM o H locs la hR hw hS hl
  obtain ⟨q, r, e1, e2, e3, hR⟩ := st I J w M  hR
  refine lv_aload_n hx hb dL_law_971 rfl (lv_at hl 1 rfl) ?_
  refine lw_cX (As := []) (v := q.1) (h' := (q.2.1, q.2.2, (rX w, kX, nX, 121))) (rest := []) C0 (c_X6_leastBand (Nat.le_refl _) (by decide) e1) gc_RL_125 qm_X6_leastBand rfl rfl qc_cl6 rfl (Nat.le_of_ble_eq_true rfl) (fun f => rfl) (by decide) rfl (Nat.le_of_ble_eq_true rfl) hce rfl (Nat.le_of_ble_eq_true rfl) hw hS hl.1 dL_law_972 (fun H locs hw hS => ?_)
  refine lv_aload_n hx hb dL_law_975 rfl (lv_at hl 2 rfl) ?_
  refine lw_cM (As := []) (v := r.1) (h' := (r.2, (fun _ _ => 0), shM)) (rest := [.int q.1]) C0 (c_X7_leastBand e2) gc_RL_128 qm_X7_leastBand rfl rfl qc_cl7 rfl (Nat.le_of_ble_eq_true rfl) (fun f => rfl) (by decide) rfl (Nat.le_of_ble_eq_true rfl) hce rfl (Nat.le_of_ble_eq_true rfl) hw hS hl.1 dL_law_976 (fun H locs hw hS => ?_)
  refine lv_icmp_eq (tgt := 1522) hx hb dL_law_979 (by decide) (fun _ => ?_) (fun c9 => absurd e3 c9)
  exact go _ _ _ _ adX adM o H locs la hR hw hS hl
theorem lw_k25 {p : Program} {l : Launch} {e : Env} {s : State} {m : MethodId} {below : List Frame} {meth : Method} {c : Code} {b L : Nat} {xs : Nat → Int32} {D : va_G} {ca : Nat → ClassId} {ad0 : Nat → Nat} {qo : Nat} {cL : ClassId} {Rel : (Nat → Nat → Int32) → (Nat → Nat → Int64) → (Nat → Nat) → (Nat → Nat → Int32) → Prop} {x4 : Int32} {cells slots : Nat} (C0 : lw_C p s m meth c b L xs D ca ad0) (hi1 : vp_in (x4 + 1) L) (hi2 : vp_in (x4 + 2) L) (hi3 : vp_in (x4 + 3) L) (hi4 : vp_in (x4 + 4) L) (hi5 : vp_in (x4 + 5) L) (hce : cells ≤ 601024 ∧ slots ≤ 7293034) (st : St_25 Rel) (go : lw_Go p l e s m below meth c b D ca ad0 qo cL Rel x4 cells slots 1522) : lw_Go p l e s m below meth c b D ca ad0 qo cL Rel x4 cells slots 984 := by
  obtain ⟨hx, hb, hr, hml, hown, hts, hX, hbl, hlocks, hgv⟩ := C0.1
  have hbA : ¬ (fun q : Nat => s.heap.size ≤ q) b := Nat.not_le.mpr hbl
  intro I J w M adX adM o H locs la hR hw hS hl
  obtain ⟨q, r, e1, e2, e3, hR⟩ := st I J w M (xs (x4 + 1).toNatClampNeg) (xs (x4 + 2).toNatClampNeg) (xs (x4 + 3).toNatClampNeg) (xs (x4 + 4).toNatClampNeg) hR
  refine lv_aload_n hx hb dL_law_984 rfl (lv_at hl 1 rfl) ?_
  refine lv_aload_n hx hb dL_law_985 rfl (lv_at hl 0 rfl) ?_
  refine lv_iload hx hb dL_law_986 (lv_at hl 4 rfl) ?_
  refine lv_iconst (v := 1) hx hb dL_law_988 (by decide) ?_
  refine lv_iadd hx hb dL_law_989 ?_
  refine va_sld hx hb hX hbl hbA hS hi1 dL_law_990 ?_
  refine lv_aload_n hx hb dL_law_991 rfl (lv_at hl 0 rfl) ?_
  refine lv_iload hx hb dL_law_992 (lv_at hl 4 rfl) ?_
  refine lv_iconst (v := 2) hx hb dL_law_994 (by decide) ?_
  refine lv_iadd hx hb dL_law_995 ?_
  refine va_sld hx hb hX hbl hbA hS hi2 dL_law_996 ?_
  refine lv_aload_n hx hb dL_law_997 rfl (lv_at hl 0 rfl) ?_
  refine lv_iload hx hb dL_law_998 (lv_at hl 4 rfl) ?_
  refine lv_iconst (v := 3) hx hb dL_law_1000 (by decide) ?_
  refine lv_iadd hx hb dL_law_1001 ?_
  refine va_sld hx hb hX hbl hbA hS hi3 dL_law_1002 ?_
  refine lv_aload_n hx hb dL_law_1003 rfl (lv_at hl 0 rfl) ?_
  refine lv_iload hx hb dL_law_1004 (lv_at hl 4 rfl) ?_
  refine lv_iconst (v := 4) hx hb dL_law_1006 (by decide) ?_
  refine lv_iadd hx hb dL_law_1007 ?_
  refine va_sld hx hb hX hbl hbA hS hi4 dL_law_1008 ?_
  refine lw_cX (As := [.int (xs (x4 + 1).toNatClampNeg), .int (xs (x4 + 2).toNatClampNeg), .int (xs (x4 + 3).toNatClampNeg), .int (xs (x4 + 4).toNatClampNeg)]) (v := q.1) (h' := (q.2.1, q.2.2, (rX w, kX, nX, 121))) (rest := []) C0 (c_X6_grown (Nat.le_refl _) (by decide) e1) gc_RL_129 qm_X6_grown rfl rfl qc_cl6 rfl (Nat.le_of_ble_eq_true rfl) (fun f => rfl) (by decide) rfl (Nat.le_of_ble_eq_true rfl) hce rfl (Nat.le_of_ble_eq_true rfl) hw hS hl.1 dL_law_1009 (fun H locs hw hS => ?_)
  refine lv_aload_n hx hb dL_law_1012 rfl (lv_at hl 2 rfl) ?_
  refine lv_aload_n hx hb dL_law_1013 rfl (lv_at hl 0 rfl) ?_
  refine lv_iload hx hb dL_law_1014 (lv_at hl 4 rfl) ?_
  refine lv_iconst (v := 1) hx hb dL_law_1016 (by decide) ?_
  refine lv_iadd hx hb dL_law_1017 ?_
  refine va_sld hx hb hX hbl hbA hS hi1 dL_law_1018 ?_
  refine lv_aload_n hx hb dL_law_1019 rfl (lv_at hl 0 rfl) ?_
  refine lv_iload hx hb dL_law_1020 (lv_at hl 4 rfl) ?_
  refine lv_iconst (v := 2) hx hb dL_law_1022 (by decide) ?_
  refine lv_iadd hx hb dL_law_1023 ?_
  refine va_sld hx hb hX hbl hbA hS hi2 dL_law_1024 ?_
  refine lv_aload_n hx hb dL_law_1025 rfl (lv_at hl 0 rfl) ?_
  refine lv_iload hx hb dL_law_1026 (lv_at hl 4 rfl) ?_
  refine lv_iconst (v := 3) hx hb dL_law_1028 (by decide) ?_
  refine lv_iadd hx hb dL_law_1029 ?_
  refine va_sld hx hb hX hbl hbA hS hi3 dL_law_1030 ?_
  refine lv_aload_n hx hb dL_law_1031 rfl (lv_at hl 0 rfl) ?_
  refine lv_iload hx hb dL_law_1032 (lv_at hl 4 rfl) ?_
  refine lv_iconst (v := 4) hx hb dL_law_1034 (by decide) ?_
  refine lv_iadd hx hb dL_law_1035 ?_
  refine va_sld hx hb hX hbl hbA hS hi4 dL_law_1036 ?_
  refine lw_cM (As := [.int (xs (x4 + 1).toNatClampNeg), .int (xs (x4 + 2).toNatClampNeg), .int (xs (x4 + 3).toNatClampNeg), .int (xs (x4 + 4).toNatClampNeg)]) (v := r.1) (h' := (r.2, (fun _ _ => 0), shM)) (rest := [.int q.1]) C0 (c_X7_grown e2) gc_RL_133 qm_X7_grown rfl rfl qc_cl7 rfl (Nat.le_of_ble_eq_true rfl) (fun f => rfl) (by decide) rfl (Nat.le_of_ble_eq_true rfl) hce rfl (Nat.le_of_ble_eq_true rfl) hw hS hl.1 dL_law_1037 (fun H locs hw hS => ?_)
  refine lv_icmp_eq (tgt := 1522) hx hb dL_law_1040 (by decide) (fun _ => ?_) (fun c9 => absurd e3 c9)
  exact go _ _ _ _ adX adM o H locs la hR hw hS hl
theorem lw_k26 {p : Program} {l : Launch} {e : Env} {s : State} {m : MethodId} {below : List Frame} {meth : Method} {c : Code} {b L : Nat} {xs : Nat → Int32} {D : va_G} {ca : Nat → ClassId} {ad0 : Nat → Nat} {qo : Nat} {cL : ClassId} {Rel : (Nat → Nat → Int32) → (Nat → Nat → Int64) → (Nat → Nat) → (Nat → Nat → Int32) → Prop} {x4 : Int32} {cells slots : Nat} (C0 : lw_C p s m meth c b L xs D ca ad0) (hi1 : vp_in (x4 + 1) L) (hi2 : vp_in (x4 + 2) L) (hi3 : vp_in (x4 + 3) L) (hi4 : vp_in (x4 + 4) L) (hi5 : vp_in (x4 + 5) L) (hce : cells ≤ 601024 ∧ slots ≤ 7293034) (st : St_26 Rel) (go : lw_Go p l e s m below meth c b D ca ad0 qo cL Rel x4 cells slots 1522) : lw_Go p l e s m below meth c b D ca ad0 qo cL Rel x4 cells slots 1045 := by
  obtain ⟨hx, hb, hr, hml, hown, hts, hX, hbl, hlocks, hgv⟩ := C0.1
  have hbA : ¬ (fun q : Nat => s.heap.size ≤ q) b := Nat.not_le.mpr hbl
  intro I J w M adX adM o H locs la hR hw hS hl
  obtain ⟨q, r, e1, e2, e3, hR⟩ := st I J w M  hR
  refine lv_aload_n hx hb dL_law_1045 rfl (lv_at hl 1 rfl) ?_
  refine lw_cX (As := []) (v := q.1) (h' := (q.2.1, q.2.2, (rX w, kX, nX, 121))) (rest := []) C0 (c_X6_worst (Nat.le_refl _) (by decide) e1) gc_RL_134 qm_X6_worst rfl rfl qc_cl6 rfl (Nat.le_of_ble_eq_true rfl) (fun f => rfl) (by decide) rfl (Nat.le_of_ble_eq_true rfl) hce rfl (Nat.le_of_ble_eq_true rfl) hw hS hl.1 dL_law_1046 (fun H locs hw hS => ?_)
  refine lv_aload_n hx hb dL_law_1049 rfl (lv_at hl 2 rfl) ?_
  refine lw_cM (As := []) (v := r.1) (h' := (r.2, (fun _ _ => 0), shM)) (rest := [.int q.1]) C0 (c_X7_worst e2) gc_RL_137 qm_X7_worst rfl rfl qc_cl7 rfl (Nat.le_of_ble_eq_true rfl) (fun f => rfl) (by decide) rfl (Nat.le_of_ble_eq_true rfl) hce rfl (Nat.le_of_ble_eq_true rfl) hw hS hl.1 dL_law_1050 (fun H locs hw hS => ?_)
  refine lv_icmp_eq (tgt := 1522) hx hb dL_law_1053 (by decide) (fun _ => ?_) (fun c9 => absurd e3 c9)
  exact go _ _ _ _ adX adM o H locs la hR hw hS hl
theorem lw_k27 {p : Program} {l : Launch} {e : Env} {s : State} {m : MethodId} {below : List Frame} {meth : Method} {c : Code} {b L : Nat} {xs : Nat → Int32} {D : va_G} {ca : Nat → ClassId} {ad0 : Nat → Nat} {qo : Nat} {cL : ClassId} {Rel : (Nat → Nat → Int32) → (Nat → Nat → Int64) → (Nat → Nat) → (Nat → Nat → Int32) → Prop} {x4 : Int32} {cells slots : Nat} (C0 : lw_C p s m meth c b L xs D ca ad0) (hi1 : vp_in (x4 + 1) L) (hi2 : vp_in (x4 + 2) L) (hi3 : vp_in (x4 + 3) L) (hi4 : vp_in (x4 + 4) L) (hi5 : vp_in (x4 + 5) L) (hce : cells ≤ 601024 ∧ slots ≤ 7293034) (st : St_27 Rel) (go : lw_Go p l e s m below meth c b D ca ad0 qo cL Rel x4 cells slots 1522) : lw_Go p l e s m below meth c b D ca ad0 qo cL Rel x4 cells slots 1058 := by
  obtain ⟨hx, hb, hr, hml, hown, hts, hX, hbl, hlocks, hgv⟩ := C0.1
  have hbA : ¬ (fun q : Nat => s.heap.size ≤ q) b := Nat.not_le.mpr hbl
  intro I J w M adX adM o H locs la hR hw hS hl
  obtain ⟨q, r, e1, e2, e3, hR⟩ := st I J w M (xs (x4 + 1).toNatClampNeg) (xs (x4 + 2).toNatClampNeg) hR
  refine lv_aload_n hx hb dL_law_1058 rfl (lv_at hl 1 rfl) ?_
  refine lv_aload_n hx hb dL_law_1059 rfl (lv_at hl 0 rfl) ?_
  refine lv_iload hx hb dL_law_1060 (lv_at hl 4 rfl) ?_
  refine lv_iconst (v := 1) hx hb dL_law_1062 (by decide) ?_
  refine lv_iadd hx hb dL_law_1063 ?_
  refine va_sld hx hb hX hbl hbA hS hi1 dL_law_1064 ?_
  refine lv_aload_n hx hb dL_law_1065 rfl (lv_at hl 0 rfl) ?_
  refine lv_iload hx hb dL_law_1066 (lv_at hl 4 rfl) ?_
  refine lv_iconst (v := 2) hx hb dL_law_1068 (by decide) ?_
  refine lv_iadd hx hb dL_law_1069 ?_
  refine va_sld hx hb hX hbl hbA hS hi2 dL_law_1070 ?_
  refine lw_cX (As := [.int (xs (x4 + 1).toNatClampNeg), .int (xs (x4 + 2).toNatClampNeg)]) (v := q.1) (h' := (q.2.1, q.2.2, (rX w, kX, nX, 121))) (rest := []) C0 (c_X6_ifTuned (Nat.le_refl _) (by decide) e1) gc_RL_138 qm_X6_ifTuned rfl rfl qc_cl6 rfl (Nat.le_of_ble_eq_true rfl) (fun f => rfl) (by decide) rfl (Nat.le_of_ble_eq_true rfl) hce rfl (Nat.le_of_ble_eq_true rfl) hw hS hl.1 dL_law_1071 (fun H locs hw hS => ?_)
  refine lv_aload_n hx hb dL_law_1074 rfl (lv_at hl 2 rfl) ?_
  refine lv_aload_n hx hb dL_law_1075 rfl (lv_at hl 0 rfl) ?_
  refine lv_iload hx hb dL_law_1076 (lv_at hl 4 rfl) ?_
  refine lv_iconst (v := 1) hx hb dL_law_1078 (by decide) ?_
  refine lv_iadd hx hb dL_law_1079 ?_
  refine va_sld hx hb hX hbl hbA hS hi1 dL_law_1080 ?_
  refine lv_aload_n hx hb dL_law_1081 rfl (lv_at hl 0 rfl) ?_
  refine lv_iload hx hb dL_law_1082 (lv_at hl 4 rfl) ?_
  refine lv_iconst (v := 2) hx hb dL_law_1084 (by decide) ?_
  refine lv_iadd hx hb dL_law_1085 ?_
  refine va_sld hx hb hX hbl hbA hS hi2 dL_law_1086 ?_
  refine lw_cM (As := [.int (xs (x4 + 1).toNatClampNeg), .int (xs (x4 + 2).toNatClampNeg)]) (v := r.1) (h' := (r.2, (fun _ _ => 0), shM)) (rest := [.int q.1]) C0 (c_X7_ifTuned e2) gc_RL_141 qm_X7_ifTuned rfl rfl qc_cl7 rfl (Nat.le_of_ble_eq_true rfl) (fun f => rfl) (by decide) rfl (Nat.le_of_ble_eq_true rfl) hce rfl (Nat.le_of_ble_eq_true rfl) hw hS hl.1 dL_law_1087 (fun H locs hw hS => ?_)
  refine lv_icmp_eq (tgt := 1522) hx hb dL_law_1090 (by decide) (fun _ => ?_) (fun c9 => absurd e3 c9)
  exact go _ _ _ _ adX adM o H locs la hR hw hS hl
theorem lw_k28 {p : Program} {l : Launch} {e : Env} {s : State} {m : MethodId} {below : List Frame} {meth : Method} {c : Code} {b L : Nat} {xs : Nat → Int32} {D : va_G} {ca : Nat → ClassId} {ad0 : Nat → Nat} {qo : Nat} {cL : ClassId} {Rel : (Nat → Nat → Int32) → (Nat → Nat → Int64) → (Nat → Nat) → (Nat → Nat → Int32) → Prop} {x4 : Int32} {cells slots : Nat} (C0 : lw_C p s m meth c b L xs D ca ad0) (hi1 : vp_in (x4 + 1) L) (hi2 : vp_in (x4 + 2) L) (hi3 : vp_in (x4 + 3) L) (hi4 : vp_in (x4 + 4) L) (hi5 : vp_in (x4 + 5) L) (hce : cells ≤ 601024 ∧ slots ≤ 7293034) (st : St_28 Rel) (go : lw_Go p l e s m below meth c b D ca ad0 qo cL Rel x4 cells slots 1522) : lw_Go p l e s m below meth c b D ca ad0 qo cL Rel x4 cells slots 1095 := by
  obtain ⟨hx, hb, hr, hml, hown, hts, hX, hbl, hlocks, hgv⟩ := C0.1
  have hbA : ¬ (fun q : Nat => s.heap.size ≤ q) b := Nat.not_le.mpr hbl
  intro I J w M adX adM o H locs la hR hw hS hl
  obtain ⟨q, r, e1, e2, e3, hR⟩ := st I J w M (xs (x4 + 1).toNatClampNeg) (xs (x4 + 2).toNatClampNeg) hR
  refine lv_aload_n hx hb dL_law_1095 rfl (lv_at hl 1 rfl) ?_
  refine lv_aload_n hx hb dL_law_1096 rfl (lv_at hl 0 rfl) ?_
  refine lv_iload hx hb dL_law_1097 (lv_at hl 4 rfl) ?_
  refine lv_iconst (v := 1) hx hb dL_law_1099 (by decide) ?_
  refine lv_iadd hx hb dL_law_1100 ?_
  refine va_sld hx hb hX hbl hbA hS hi1 dL_law_1101 ?_
  refine lv_aload_n hx hb dL_law_1102 rfl (lv_at hl 0 rfl) ?_
  refine lv_iload hx hb dL_law_1103 (lv_at hl 4 rfl) ?_
  refine lv_iconst (v := 2) hx hb dL_law_1105 (by decide) ?_
  refine lv_iadd hx hb dL_law_1106 ?_
  refine va_sld hx hb hX hbl hbA hS hi2 dL_law_1107 ?_
  refine lw_cX (As := [.int (xs (x4 + 1).toNatClampNeg), .int (xs (x4 + 2).toNatClampNeg)]) (v := q.1) (h' := (q.2.1, q.2.2, (rX w, kX, nX, 121))) (rest := []) C0 (c_X6_bySort (Nat.le_refl _) (by decide) e1) gc_RL_142 qm_X6_bySort rfl rfl qc_cl6 rfl (Nat.le_of_ble_eq_true rfl) (fun f => rfl) (by decide) rfl (Nat.le_of_ble_eq_true rfl) hce rfl (Nat.le_of_ble_eq_true rfl) hw hS hl.1 dL_law_1108 (fun H locs hw hS => ?_)
  refine lv_aload_n hx hb dL_law_1111 rfl (lv_at hl 2 rfl) ?_
  refine lv_aload_n hx hb dL_law_1112 rfl (lv_at hl 0 rfl) ?_
  refine lv_iload hx hb dL_law_1113 (lv_at hl 4 rfl) ?_
  refine lv_iconst (v := 1) hx hb dL_law_1115 (by decide) ?_
  refine lv_iadd hx hb dL_law_1116 ?_
  refine va_sld hx hb hX hbl hbA hS hi1 dL_law_1117 ?_
  refine lv_aload_n hx hb dL_law_1118 rfl (lv_at hl 0 rfl) ?_
  refine lv_iload hx hb dL_law_1119 (lv_at hl 4 rfl) ?_
  refine lv_iconst (v := 2) hx hb dL_law_1121 (by decide) ?_
  refine lv_iadd hx hb dL_law_1122 ?_
  refine va_sld hx hb hX hbl hbA hS hi2 dL_law_1123 ?_
  refine lw_cM (As := [.int (xs (x4 + 1).toNatClampNeg), .int (xs (x4 + 2).toNatClampNeg)]) (v := r.1) (h' := (r.2, (fun _ _ => 0), shM)) (rest := [.int q.1]) C0 (c_X7_bySort e2) gc_RL_145 qm_X7_bySort rfl rfl qc_cl7 rfl (Nat.le_of_ble_eq_true rfl) (fun f => rfl) (by decide) rfl (Nat.le_of_ble_eq_true rfl) hce rfl (Nat.le_of_ble_eq_true rfl) hw hS hl.1 dL_law_1124 (fun H locs hw hS => ?_)
  refine lv_icmp_eq (tgt := 1522) hx hb dL_law_1127 (by decide) (fun _ => ?_) (fun c9 => absurd e3 c9)
  exact go _ _ _ _ adX adM o H locs la hR hw hS hl
theorem lw_k29 {p : Program} {l : Launch} {e : Env} {s : State} {m : MethodId} {below : List Frame} {meth : Method} {c : Code} {b L : Nat} {xs : Nat → Int32} {D : va_G} {ca : Nat → ClassId} {ad0 : Nat → Nat} {qo : Nat} {cL : ClassId} {Rel : (Nat → Nat → Int32) → (Nat → Nat → Int64) → (Nat → Nat) → (Nat → Nat → Int32) → Prop} {x4 : Int32} {cells slots : Nat} (C0 : lw_C p s m meth c b L xs D ca ad0) (hi1 : vp_in (x4 + 1) L) (hi2 : vp_in (x4 + 2) L) (hi3 : vp_in (x4 + 3) L) (hi4 : vp_in (x4 + 4) L) (hi5 : vp_in (x4 + 5) L) (hce : cells ≤ 601024 ∧ slots ≤ 7293034) (st : St_29 Rel) (go : lw_Go p l e s m below meth c b D ca ad0 qo cL Rel x4 cells slots 1522) : lw_Go p l e s m below meth c b D ca ad0 qo cL Rel x4 cells slots 1132 := by
  obtain ⟨hx, hb, hr, hml, hown, hts, hX, hbl, hlocks, hgv⟩ := C0.1
  have hbA : ¬ (fun q : Nat => s.heap.size ≤ q) b := Nat.not_le.mpr hbl
  intro I J w M adX adM o H locs la hR hw hS hl
  obtain ⟨q, r, e1, e2, e3, hR⟩ := st I J w M  hR
  refine lv_aload_n hx hb dL_law_1132 rfl (lv_at hl 1 rfl) ?_
  refine lw_cX (As := []) (v := q.1) (h' := (q.2.1, q.2.2, (rX w, kX, nX, 121))) (rest := []) C0 (c_X6_loudest (Nat.le_refl _) (by decide) e1) gc_RL_146 qm_X6_loudest rfl rfl qc_cl6 rfl (Nat.le_of_ble_eq_true rfl) (fun f => rfl) (by decide) rfl (Nat.le_of_ble_eq_true rfl) hce rfl (Nat.le_of_ble_eq_true rfl) hw hS hl.1 dL_law_1133 (fun H locs hw hS => ?_)
  refine lv_aload_n hx hb dL_law_1136 rfl (lv_at hl 2 rfl) ?_
  refine lw_cM (As := []) (v := r.1) (h' := (r.2, (fun _ _ => 0), shM)) (rest := [.int q.1]) C0 (c_X7_loudest e2) gc_RL_149 qm_X7_loudest rfl rfl qc_cl7 rfl (Nat.le_of_ble_eq_true rfl) (fun f => rfl) (by decide) rfl (Nat.le_of_ble_eq_true rfl) hce rfl (Nat.le_of_ble_eq_true rfl) hw hS hl.1 dL_law_1137 (fun H locs hw hS => ?_)
  refine lv_icmp_eq (tgt := 1522) hx hb dL_law_1140 (by decide) (fun _ => ?_) (fun c9 => absurd e3 c9)
  exact go _ _ _ _ adX adM o H locs la hR hw hS hl
theorem lw_k30 {p : Program} {l : Launch} {e : Env} {s : State} {m : MethodId} {below : List Frame} {meth : Method} {c : Code} {b L : Nat} {xs : Nat → Int32} {D : va_G} {ca : Nat → ClassId} {ad0 : Nat → Nat} {qo : Nat} {cL : ClassId} {Rel : (Nat → Nat → Int32) → (Nat → Nat → Int64) → (Nat → Nat) → (Nat → Nat → Int32) → Prop} {x4 : Int32} {cells slots : Nat} (C0 : lw_C p s m meth c b L xs D ca ad0) (hi1 : vp_in (x4 + 1) L) (hi2 : vp_in (x4 + 2) L) (hi3 : vp_in (x4 + 3) L) (hi4 : vp_in (x4 + 4) L) (hi5 : vp_in (x4 + 5) L) (hce : cells ≤ 601024 ∧ slots ≤ 7293034) (st : St_30 Rel) (go : lw_Go p l e s m below meth c b D ca ad0 qo cL Rel x4 cells slots 1522) : lw_Go p l e s m below meth c b D ca ad0 qo cL Rel x4 cells slots 1145 := by
  obtain ⟨hx, hb, hr, hml, hown, hts, hX, hbl, hlocks, hgv⟩ := C0.1
  have hbA : ¬ (fun q : Nat => s.heap.size ≤ q) b := Nat.not_le.mpr hbl
  intro I J w M adX adM o H locs la hR hw hS hl
  obtain ⟨q, r, e1, e2, e3, hR⟩ := st I J w M (xs (x4 + 1).toNatClampNeg) hR
  refine lv_aload_n hx hb dL_law_1145 rfl (lv_at hl 1 rfl) ?_
  refine lv_aload_n hx hb dL_law_1146 rfl (lv_at hl 0 rfl) ?_
  refine lv_iload hx hb dL_law_1147 (lv_at hl 4 rfl) ?_
  refine lv_iconst (v := 1) hx hb dL_law_1149 (by decide) ?_
  refine lv_iadd hx hb dL_law_1150 ?_
  refine va_sld hx hb hX hbl hbA hS hi1 dL_law_1151 ?_
  refine lw_cX (As := [.int (xs (x4 + 1).toNatClampNeg)]) (v := q.1) (h' := (q.2.1, q.2.2, (rX w, kX, nX, 121))) (rest := []) C0 (c_X6_turned (Nat.le_refl _) (by decide) e1) gc_RL_150 qm_X6_turned rfl rfl qc_cl6 rfl (Nat.le_of_ble_eq_true rfl) (fun f => rfl) (by decide) rfl (Nat.le_of_ble_eq_true rfl) hce rfl (Nat.le_of_ble_eq_true rfl) hw hS hl.1 dL_law_1152 (fun H locs hw hS => ?_)
  refine lv_aload_n hx hb dL_law_1155 rfl (lv_at hl 2 rfl) ?_
  refine lv_aload_n hx hb dL_law_1156 rfl (lv_at hl 0 rfl) ?_
  refine lv_iload hx hb dL_law_1157 (lv_at hl 4 rfl) ?_
  refine lv_iconst (v := 1) hx hb dL_law_1159 (by decide) ?_
  refine lv_iadd hx hb dL_law_1160 ?_
  refine va_sld hx hb hX hbl hbA hS hi1 dL_law_1161 ?_
  refine lw_cM (As := [.int (xs (x4 + 1).toNatClampNeg)]) (v := r.1) (h' := (r.2, (fun _ _ => 0), shM)) (rest := [.int q.1]) C0 (c_X7_turned e2) gc_RL_153 qm_X7_turned rfl rfl qc_cl7 rfl (Nat.le_of_ble_eq_true rfl) (fun f => rfl) (by decide) rfl (Nat.le_of_ble_eq_true rfl) hce rfl (Nat.le_of_ble_eq_true rfl) hw hS hl.1 dL_law_1162 (fun H locs hw hS => ?_)
  refine lv_icmp_eq (tgt := 1522) hx hb dL_law_1165 (by decide) (fun _ => ?_) (fun c9 => absurd e3 c9)
  exact go _ _ _ _ adX adM o H locs la hR hw hS hl
theorem lw_k31 {p : Program} {l : Launch} {e : Env} {s : State} {m : MethodId} {below : List Frame} {meth : Method} {c : Code} {b L : Nat} {xs : Nat → Int32} {D : va_G} {ca : Nat → ClassId} {ad0 : Nat → Nat} {qo : Nat} {cL : ClassId} {Rel : (Nat → Nat → Int32) → (Nat → Nat → Int64) → (Nat → Nat) → (Nat → Nat → Int32) → Prop} {x4 : Int32} {cells slots : Nat} (C0 : lw_C p s m meth c b L xs D ca ad0) (hi1 : vp_in (x4 + 1) L) (hi2 : vp_in (x4 + 2) L) (hi3 : vp_in (x4 + 3) L) (hi4 : vp_in (x4 + 4) L) (hi5 : vp_in (x4 + 5) L) (hce : cells ≤ 601024 ∧ slots ≤ 7293034) (st : St_31 Rel) (go : lw_Go p l e s m below meth c b D ca ad0 qo cL Rel x4 cells slots 1522) : lw_Go p l e s m below meth c b D ca ad0 qo cL Rel x4 cells slots 1170 := by
  obtain ⟨hx, hb, hr, hml, hown, hts, hX, hbl, hlocks, hgv⟩ := C0.1
  have hbA : ¬ (fun q : Nat => s.heap.size ≤ q) b := Nat.not_le.mpr hbl
  intro I J w M adX adM o H locs la hR hw hS hl
  obtain ⟨q, r, e1, e2, e3, hR⟩ := st I J w M  hR
  refine lv_aload_n hx hb dL_law_1170 rfl (lv_at hl 1 rfl) ?_
  refine lw_cX (As := []) (v := q.1) (h' := (q.2.1, q.2.2, (rX w, kX, nX, 121))) (rest := []) C0 (c_X6_left (Nat.le_refl _) (by decide) e1) gc_RL_154 qm_X6_left rfl rfl qc_cl6 rfl (Nat.le_of_ble_eq_true rfl) (fun f => rfl) (by decide) rfl (Nat.le_of_ble_eq_true rfl) hce rfl (Nat.le_of_ble_eq_true rfl) hw hS hl.1 dL_law_1171 (fun H locs hw hS => ?_)
  refine lv_aload_n hx hb dL_law_1174 rfl (lv_at hl 2 rfl) ?_
  refine lw_cM (As := []) (v := r.1) (h' := (r.2, (fun _ _ => 0), shM)) (rest := [.int q.1]) C0 (c_X7_left e2) gc_RL_157 qm_X7_left rfl rfl qc_cl7 rfl (Nat.le_of_ble_eq_true rfl) (fun f => rfl) (by decide) rfl (Nat.le_of_ble_eq_true rfl) hce rfl (Nat.le_of_ble_eq_true rfl) hw hS hl.1 dL_law_1175 (fun H locs hw hS => ?_)
  refine lv_icmp_eq (tgt := 1522) hx hb dL_law_1178 (by decide) (fun _ => ?_) (fun c9 => absurd e3 c9)
  exact go _ _ _ _ adX adM o H locs la hR hw hS hl
theorem lw_k32 {p : Program} {l : Launch} {e : Env} {s : State} {m : MethodId} {below : List Frame} {meth : Method} {c : Code} {b L : Nat} {xs : Nat → Int32} {D : va_G} {ca : Nat → ClassId} {ad0 : Nat → Nat} {qo : Nat} {cL : ClassId} {Rel : (Nat → Nat → Int32) → (Nat → Nat → Int64) → (Nat → Nat) → (Nat → Nat → Int32) → Prop} {x4 : Int32} {cells slots : Nat} (C0 : lw_C p s m meth c b L xs D ca ad0) (hi1 : vp_in (x4 + 1) L) (hi2 : vp_in (x4 + 2) L) (hi3 : vp_in (x4 + 3) L) (hi4 : vp_in (x4 + 4) L) (hi5 : vp_in (x4 + 5) L) (hce : cells ≤ 601024 ∧ slots ≤ 7293034) (st : St_32 Rel) (go : lw_Go p l e s m below meth c b D ca ad0 qo cL Rel x4 cells slots 1522) : lw_Go p l e s m below meth c b D ca ad0 qo cL Rel x4 cells slots 1183 := by
  obtain ⟨hx, hb, hr, hml, hown, hts, hX, hbl, hlocks, hgv⟩ := C0.1
  have hbA : ¬ (fun q : Nat => s.heap.size ≤ q) b := Nat.not_le.mpr hbl
  intro I J w M adX adM o H locs la hR hw hS hl
  obtain ⟨q, r, e1, e2, e3, hR⟩ := st I J w M  hR
  refine lv_aload_n hx hb dL_law_1183 rfl (lv_at hl 1 rfl) ?_
  refine lw_cX (As := []) (v := q.1) (h' := (q.2.1, q.2.2, (rX w, kX, nX, 121))) (rest := []) C0 (c_X6_bestSwap (Nat.le_refl _) (by decide) e1) gc_RL_158 qm_X6_bestSwap rfl rfl qc_cl6 rfl (Nat.le_of_ble_eq_true rfl) (fun f => rfl) (by decide) rfl (Nat.le_of_ble_eq_true rfl) hce rfl (Nat.le_of_ble_eq_true rfl) hw hS hl.1 dL_law_1184 (fun H locs hw hS => ?_)
  refine lv_aload_n hx hb dL_law_1187 rfl (lv_at hl 2 rfl) ?_
  refine lw_cM (As := []) (v := r.1) (h' := (r.2, (fun _ _ => 0), shM)) (rest := [.int q.1]) C0 (c_X7_bestSwap e2) gc_RL_161 qm_X7_bestSwap rfl rfl qc_cl7 rfl (Nat.le_of_ble_eq_true rfl) (fun f => rfl) (by decide) rfl (Nat.le_of_ble_eq_true rfl) hce rfl (Nat.le_of_ble_eq_true rfl) hw hS hl.1 dL_law_1188 (fun H locs hw hS => ?_)
  refine lv_icmp_eq (tgt := 1522) hx hb dL_law_1191 (by decide) (fun _ => ?_) (fun c9 => absurd e3 c9)
  exact go _ _ _ _ adX adM o H locs la hR hw hS hl
theorem lw_k33 {p : Program} {l : Launch} {e : Env} {s : State} {m : MethodId} {below : List Frame} {meth : Method} {c : Code} {b L : Nat} {xs : Nat → Int32} {D : va_G} {ca : Nat → ClassId} {ad0 : Nat → Nat} {qo : Nat} {cL : ClassId} {Rel : (Nat → Nat → Int32) → (Nat → Nat → Int64) → (Nat → Nat) → (Nat → Nat → Int32) → Prop} {x4 : Int32} {cells slots : Nat} (C0 : lw_C p s m meth c b L xs D ca ad0) (hi1 : vp_in (x4 + 1) L) (hi2 : vp_in (x4 + 2) L) (hi3 : vp_in (x4 + 3) L) (hi4 : vp_in (x4 + 4) L) (hi5 : vp_in (x4 + 5) L) (hce : cells ≤ 601024 ∧ slots ≤ 7293034) (st : St_33 Rel) (go : lw_Go p l e s m below meth c b D ca ad0 qo cL Rel x4 cells slots 1522) : lw_Go p l e s m below meth c b D ca ad0 qo cL Rel x4 cells slots 1196 := by
  obtain ⟨hx, hb, hr, hml, hown, hts, hX, hbl, hlocks, hgv⟩ := C0.1
  have hbA : ¬ (fun q : Nat => s.heap.size ≤ q) b := Nat.not_le.mpr hbl
  intro I J w M adX adM o H locs la hR hw hS hl
  obtain ⟨q, r, e1, e2, e3, hR⟩ := st I J w M (xs (x4 + 1).toNatClampNeg) hR
  refine lv_aload_n hx hb dL_law_1196 rfl (lv_at hl 1 rfl) ?_
  refine lv_aload_n hx hb dL_law_1197 rfl (lv_at hl 0 rfl) ?_
  refine lv_iload hx hb dL_law_1198 (lv_at hl 4 rfl) ?_
  refine lv_iconst (v := 1) hx hb dL_law_1200 (by decide) ?_
  refine lv_iadd hx hb dL_law_1201 ?_
  refine va_sld hx hb hX hbl hbA hS hi1 dL_law_1202 ?_
  refine lw_cX (As := [.int (xs (x4 + 1).toNatClampNeg)]) (v := q.1) (h' := (q.2.1, q.2.2, (rX w, kX, nX, 121))) (rest := []) C0 (c_X6_when (Nat.le_refl _) (by decide) e1) gc_RL_162 qm_X6_when rfl rfl qc_cl6 rfl (Nat.le_of_ble_eq_true rfl) (fun f => rfl) (by decide) rfl (Nat.le_of_ble_eq_true rfl) hce rfl (Nat.le_of_ble_eq_true rfl) hw hS hl.1 dL_law_1203 (fun H locs hw hS => ?_)
  refine lv_aload_n hx hb dL_law_1206 rfl (lv_at hl 2 rfl) ?_
  refine lv_aload_n hx hb dL_law_1207 rfl (lv_at hl 0 rfl) ?_
  refine lv_iload hx hb dL_law_1208 (lv_at hl 4 rfl) ?_
  refine lv_iconst (v := 1) hx hb dL_law_1210 (by decide) ?_
  refine lv_iadd hx hb dL_law_1211 ?_
  refine va_sld hx hb hX hbl hbA hS hi1 dL_law_1212 ?_
  refine lw_cM (As := [.int (xs (x4 + 1).toNatClampNeg)]) (v := r.1) (h' := (r.2, (fun _ _ => 0), shM)) (rest := [.int q.1]) C0 (c_X7_when e2) gc_RL_165 qm_X7_when rfl rfl qc_cl7 rfl (Nat.le_of_ble_eq_true rfl) (fun f => rfl) (by decide) rfl (Nat.le_of_ble_eq_true rfl) hce rfl (Nat.le_of_ble_eq_true rfl) hw hS hl.1 dL_law_1213 (fun H locs hw hS => ?_)
  refine lv_icmp_eq (tgt := 1522) hx hb dL_law_1216 (by decide) (fun _ => ?_) (fun c9 => absurd e3 c9)
  exact go _ _ _ _ adX adM o H locs la hR hw hS hl
theorem lw_k34 {p : Program} {l : Launch} {e : Env} {s : State} {m : MethodId} {below : List Frame} {meth : Method} {c : Code} {b L : Nat} {xs : Nat → Int32} {D : va_G} {ca : Nat → ClassId} {ad0 : Nat → Nat} {qo : Nat} {cL : ClassId} {Rel : (Nat → Nat → Int32) → (Nat → Nat → Int64) → (Nat → Nat) → (Nat → Nat → Int32) → Prop} {x4 : Int32} {cells slots : Nat} (C0 : lw_C p s m meth c b L xs D ca ad0) (hi1 : vp_in (x4 + 1) L) (hi2 : vp_in (x4 + 2) L) (hi3 : vp_in (x4 + 3) L) (hi4 : vp_in (x4 + 4) L) (hi5 : vp_in (x4 + 5) L) (hce : cells ≤ 601024 ∧ slots ≤ 7293034) (st : St_34 Rel) (go : lw_Go p l e s m below meth c b D ca ad0 qo cL Rel x4 cells slots 1522) : lw_Go p l e s m below meth c b D ca ad0 qo cL Rel x4 cells slots 1221 := by
  obtain ⟨hx, hb, hr, hml, hown, hts, hX, hbl, hlocks, hgv⟩ := C0.1
  have hbA : ¬ (fun q : Nat => s.heap.size ≤ q) b := Nat.not_le.mpr hbl
  intro I J w M adX adM o H locs la hR hw hS hl
  obtain ⟨q, r, e1, e2, e3, hR⟩ := st I J w M (xs (x4 + 1).toNatClampNeg) hR
  refine lv_aload_n hx hb dL_law_1221 rfl (lv_at hl 1 rfl) ?_
  refine lv_aload_n hx hb dL_law_1222 rfl (lv_at hl 0 rfl) ?_
  refine lv_iload hx hb dL_law_1223 (lv_at hl 4 rfl) ?_
  refine lv_iconst (v := 1) hx hb dL_law_1225 (by decide) ?_
  refine lv_iadd hx hb dL_law_1226 ?_
  refine va_sld hx hb hX hbl hbA hS hi1 dL_law_1227 ?_
  refine lw_cX (As := [.int (xs (x4 + 1).toNatClampNeg)]) (v := q.1) (h' := (q.2.1, q.2.2, (rX w, kX, nX, 121))) (rest := []) C0 (c_X6_clearance (Nat.le_refl _) (by decide) e1) gc_RL_166 qm_X6_clearance rfl rfl qc_cl6 rfl (Nat.le_of_ble_eq_true rfl) (fun f => rfl) (by decide) rfl (Nat.le_of_ble_eq_true rfl) hce rfl (Nat.le_of_ble_eq_true rfl) hw hS hl.1 dL_law_1228 (fun H locs hw hS => ?_)
  refine lv_aload_n hx hb dL_law_1231 rfl (lv_at hl 2 rfl) ?_
  refine lv_aload_n hx hb dL_law_1232 rfl (lv_at hl 0 rfl) ?_
  refine lv_iload hx hb dL_law_1233 (lv_at hl 4 rfl) ?_
  refine lv_iconst (v := 1) hx hb dL_law_1235 (by decide) ?_
  refine lv_iadd hx hb dL_law_1236 ?_
  refine va_sld hx hb hX hbl hbA hS hi1 dL_law_1237 ?_
  refine lw_cM (As := [.int (xs (x4 + 1).toNatClampNeg)]) (v := r.1) (h' := (r.2, (fun _ _ => 0), shM)) (rest := [.int q.1]) C0 (c_X7_clearance e2) gc_RL_169 qm_X7_clearance rfl rfl qc_cl7 rfl (Nat.le_of_ble_eq_true rfl) (fun f => rfl) (by decide) rfl (Nat.le_of_ble_eq_true rfl) hce rfl (Nat.le_of_ble_eq_true rfl) hw hS hl.1 dL_law_1238 (fun H locs hw hS => ?_)
  refine lv_icmp_eq (tgt := 1522) hx hb dL_law_1241 (by decide) (fun _ => ?_) (fun c9 => absurd e3 c9)
  exact go _ _ _ _ adX adM o H locs la hR hw hS hl
theorem lw_k35 {p : Program} {l : Launch} {e : Env} {s : State} {m : MethodId} {below : List Frame} {meth : Method} {c : Code} {b L : Nat} {xs : Nat → Int32} {D : va_G} {ca : Nat → ClassId} {ad0 : Nat → Nat} {qo : Nat} {cL : ClassId} {Rel : (Nat → Nat → Int32) → (Nat → Nat → Int64) → (Nat → Nat) → (Nat → Nat → Int32) → Prop} {x4 : Int32} {cells slots : Nat} (C0 : lw_C p s m meth c b L xs D ca ad0) (hi1 : vp_in (x4 + 1) L) (hi2 : vp_in (x4 + 2) L) (hi3 : vp_in (x4 + 3) L) (hi4 : vp_in (x4 + 4) L) (hi5 : vp_in (x4 + 5) L) (hce : cells ≤ 601024 ∧ slots ≤ 7293034) (st : St_35 Rel) (go : lw_Go p l e s m below meth c b D ca ad0 qo cL Rel x4 cells slots 1522) : lw_Go p l e s m below meth c b D ca ad0 qo cL Rel x4 cells slots 1246 := by
  obtain ⟨hx, hb, hr, hml, hown, hts, hX, hbl, hlocks, hgv⟩ := C0.1
  have hbA : ¬ (fun q : Nat => s.heap.size ≤ q) b := Nat.not_le.mpr hbl
  intro I J w M adX adM o H locs la hR hw hS hl
  obtain ⟨q, r, e1, e2, e3, hR⟩ := st I J w M (xs (x4 + 1).toNatClampNeg) hR
  refine lv_aload_n hx hb dL_law_1246 rfl (lv_at hl 1 rfl) ?_
  refine lv_aload_n hx hb dL_law_1247 rfl (lv_at hl 0 rfl) ?_
  refine lv_iload hx hb dL_law_1248 (lv_at hl 4 rfl) ?_
  refine lv_iconst (v := 1) hx hb dL_law_1250 (by decide) ?_
  refine lv_iadd hx hb dL_law_1251 ?_
  refine va_sld hx hb hX hbl hbA hS hi1 dL_law_1252 ?_
  refine lw_cX (As := [.int (xs (x4 + 1).toNatClampNeg)]) (v := q) (h' := (I, J, (rX w, kX, nX, 121))) (rest := []) C0 (c_X6_nearest (Nat.le_refl _) (by decide) e1) gc_RL_170 qm_X6_nearest rfl rfl qc_cl6 rfl (Nat.le_of_ble_eq_true rfl) (fun f => rfl) (by decide) rfl (Nat.le_of_ble_eq_true rfl) hce rfl (Nat.le_of_ble_eq_true rfl) hw hS hl.1 dL_law_1253 (fun H locs hw hS => ?_)
  refine lv_aload_n hx hb dL_law_1256 rfl (lv_at hl 2 rfl) ?_
  refine lv_aload_n hx hb dL_law_1257 rfl (lv_at hl 0 rfl) ?_
  refine lv_iload hx hb dL_law_1258 (lv_at hl 4 rfl) ?_
  refine lv_iconst (v := 1) hx hb dL_law_1260 (by decide) ?_
  refine lv_iadd hx hb dL_law_1261 ?_
  refine va_sld hx hb hX hbl hbA hS hi1 dL_law_1262 ?_
  refine lw_cM (As := [.int (xs (x4 + 1).toNatClampNeg)]) (v := r.1) (h' := (r.2, (fun _ _ => 0), shM)) (rest := [.int q]) C0 (c_X7_nearest e2) gc_RL_173 qm_X7_nearest rfl rfl qc_cl7 rfl (Nat.le_of_ble_eq_true rfl) (fun f => rfl) (by decide) rfl (Nat.le_of_ble_eq_true rfl) hce rfl (Nat.le_of_ble_eq_true rfl) hw hS hl.1 dL_law_1263 (fun H locs hw hS => ?_)
  refine lv_icmp_eq (tgt := 1522) hx hb dL_law_1266 (by decide) (fun _ => ?_) (fun c9 => absurd e3 c9)
  exact go _ _ _ _ adX adM o H locs la hR hw hS hl
theorem lw_k36 {p : Program} {l : Launch} {e : Env} {s : State} {m : MethodId} {below : List Frame} {meth : Method} {c : Code} {b L : Nat} {xs : Nat → Int32} {D : va_G} {ca : Nat → ClassId} {ad0 : Nat → Nat} {qo : Nat} {cL : ClassId} {Rel : (Nat → Nat → Int32) → (Nat → Nat → Int64) → (Nat → Nat) → (Nat → Nat → Int32) → Prop} {x4 : Int32} {cells slots : Nat} (C0 : lw_C p s m meth c b L xs D ca ad0) (hi1 : vp_in (x4 + 1) L) (hi2 : vp_in (x4 + 2) L) (hi3 : vp_in (x4 + 3) L) (hi4 : vp_in (x4 + 4) L) (hi5 : vp_in (x4 + 5) L) (hce : cells ≤ 601024 ∧ slots ≤ 7293034) (st : St_36 Rel) (go : lw_Go p l e s m below meth c b D ca ad0 qo cL Rel x4 cells slots 1522) : lw_Go p l e s m below meth c b D ca ad0 qo cL Rel x4 cells slots 1271 := by
  obtain ⟨hx, hb, hr, hml, hown, hts, hX, hbl, hlocks, hgv⟩ := C0.1
  have hbA : ¬ (fun q : Nat => s.heap.size ≤ q) b := Nat.not_le.mpr hbl
  intro I J w M adX adM o H locs la hR hw hS hl
  obtain ⟨q, r, e1, e2, e3, hR⟩ := st I J w M  hR
  refine lv_aload_n hx hb dL_law_1271 rfl (lv_at hl 1 rfl) ?_
  refine lw_cX (As := []) (v := q.1) (h' := (q.2.1, q.2.2, (rX w, kX, nX, 121))) (rest := []) C0 (c_X6_mostSpace (Nat.le_refl _) (by decide) e1) gc_RL_174 qm_X6_mostSpace rfl rfl qc_cl6 rfl (Nat.le_of_ble_eq_true rfl) (fun f => rfl) (by decide) rfl (Nat.le_of_ble_eq_true rfl) hce rfl (Nat.le_of_ble_eq_true rfl) hw hS hl.1 dL_law_1272 (fun H locs hw hS => ?_)
  refine lv_aload_n hx hb dL_law_1275 rfl (lv_at hl 2 rfl) ?_
  refine lw_cM (As := []) (v := r.1) (h' := (r.2, (fun _ _ => 0), shM)) (rest := [.int q.1]) C0 (c_X7_mostSpace e2) gc_RL_177 qm_X7_mostSpace rfl rfl qc_cl7 rfl (Nat.le_of_ble_eq_true rfl) (fun f => rfl) (by decide) rfl (Nat.le_of_ble_eq_true rfl) hce rfl (Nat.le_of_ble_eq_true rfl) hw hS hl.1 dL_law_1276 (fun H locs hw hS => ?_)
  refine lv_icmp_eq (tgt := 1522) hx hb dL_law_1279 (by decide) (fun _ => ?_) (fun c9 => absurd e3 c9)
  exact go _ _ _ _ adX adM o H locs la hR hw hS hl
theorem lw_k37 {p : Program} {l : Launch} {e : Env} {s : State} {m : MethodId} {below : List Frame} {meth : Method} {c : Code} {b L : Nat} {xs : Nat → Int32} {D : va_G} {ca : Nat → ClassId} {ad0 : Nat → Nat} {qo : Nat} {cL : ClassId} {Rel : (Nat → Nat → Int32) → (Nat → Nat → Int64) → (Nat → Nat) → (Nat → Nat → Int32) → Prop} {x4 : Int32} {cells slots : Nat} (C0 : lw_C p s m meth c b L xs D ca ad0) (hi1 : vp_in (x4 + 1) L) (hi2 : vp_in (x4 + 2) L) (hi3 : vp_in (x4 + 3) L) (hi4 : vp_in (x4 + 4) L) (hi5 : vp_in (x4 + 5) L) (hce : cells ≤ 601024 ∧ slots ≤ 7293034) (st : St_37 Rel) (go : lw_Go p l e s m below meth c b D ca ad0 qo cL Rel x4 cells slots 1522) : lw_Go p l e s m below meth c b D ca ad0 qo cL Rel x4 cells slots 1284 := by
  obtain ⟨hx, hb, hr, hml, hown, hts, hX, hbl, hlocks, hgv⟩ := C0.1
  have hbA : ¬ (fun q : Nat => s.heap.size ≤ q) b := Nat.not_le.mpr hbl
  intro I J w M adX adM o H locs la hR hw hS hl
  obtain ⟨q, r, e1, e2, e3, hR⟩ := st I J w M (xs (x4 + 1).toNatClampNeg) hR
  refine lv_aload_n hx hb dL_law_1284 rfl (lv_at hl 1 rfl) ?_
  refine lv_aload_n hx hb dL_law_1285 rfl (lv_at hl 0 rfl) ?_
  refine lv_iload hx hb dL_law_1286 (lv_at hl 4 rfl) ?_
  refine lv_iconst (v := 1) hx hb dL_law_1288 (by decide) ?_
  refine lv_iadd hx hb dL_law_1289 ?_
  refine va_sld hx hb hX hbl hbA hS hi1 dL_law_1290 ?_
  refine lw_cX (As := [.int (xs (x4 + 1).toNatClampNeg)]) (v := q.1) (h' := (q.2.1, q.2.2, (rX w, kX, nX, 121))) (rest := []) C0 (c_X6_spare (Nat.le_refl _) (by decide) e1) gc_RL_178 qm_X6_spare rfl rfl qc_cl6 rfl (Nat.le_of_ble_eq_true rfl) (fun f => rfl) (by decide) rfl (Nat.le_of_ble_eq_true rfl) hce rfl (Nat.le_of_ble_eq_true rfl) hw hS hl.1 dL_law_1291 (fun H locs hw hS => ?_)
  refine lv_aload_n hx hb dL_law_1294 rfl (lv_at hl 2 rfl) ?_
  refine lv_aload_n hx hb dL_law_1295 rfl (lv_at hl 0 rfl) ?_
  refine lv_iload hx hb dL_law_1296 (lv_at hl 4 rfl) ?_
  refine lv_iconst (v := 1) hx hb dL_law_1298 (by decide) ?_
  refine lv_iadd hx hb dL_law_1299 ?_
  refine va_sld hx hb hX hbl hbA hS hi1 dL_law_1300 ?_
  refine lw_cM (As := [.int (xs (x4 + 1).toNatClampNeg)]) (v := r.1) (h' := (r.2, (fun _ _ => 0), shM)) (rest := [.int q.1]) C0 (c_X7_spare e2) gc_RL_181 qm_X7_spare rfl rfl qc_cl7 rfl (Nat.le_of_ble_eq_true rfl) (fun f => rfl) (by decide) rfl (Nat.le_of_ble_eq_true rfl) hce rfl (Nat.le_of_ble_eq_true rfl) hw hS hl.1 dL_law_1301 (fun H locs hw hS => ?_)
  refine lv_icmp_eq (tgt := 1522) hx hb dL_law_1304 (by decide) (fun _ => ?_) (fun c9 => absurd e3 c9)
  exact go _ _ _ _ adX adM o H locs la hR hw hS hl
theorem lw_k38 {p : Program} {l : Launch} {e : Env} {s : State} {m : MethodId} {below : List Frame} {meth : Method} {c : Code} {b L : Nat} {xs : Nat → Int32} {D : va_G} {ca : Nat → ClassId} {ad0 : Nat → Nat} {qo : Nat} {cL : ClassId} {Rel : (Nat → Nat → Int32) → (Nat → Nat → Int64) → (Nat → Nat) → (Nat → Nat → Int32) → Prop} {x4 : Int32} {cells slots : Nat} (C0 : lw_C p s m meth c b L xs D ca ad0) (hi1 : vp_in (x4 + 1) L) (hi2 : vp_in (x4 + 2) L) (hi3 : vp_in (x4 + 3) L) (hi4 : vp_in (x4 + 4) L) (hi5 : vp_in (x4 + 5) L) (hce : cells ≤ 601024 ∧ slots ≤ 7293034) (st : St_38 Rel) (go : lw_Go p l e s m below meth c b D ca ad0 qo cL Rel x4 cells slots 1522) : lw_Go p l e s m below meth c b D ca ad0 qo cL Rel x4 cells slots 1309 := by
  obtain ⟨hx, hb, hr, hml, hown, hts, hX, hbl, hlocks, hgv⟩ := C0.1
  have hbA : ¬ (fun q : Nat => s.heap.size ≤ q) b := Nat.not_le.mpr hbl
  intro I J w M adX adM o H locs la hR hw hS hl
  obtain ⟨q, r, e1, e2, e3, hR⟩ := st I J w M (xs (x4 + 1).toNatClampNeg) hR
  refine lv_aload_n hx hb dL_law_1309 rfl (lv_at hl 1 rfl) ?_
  refine lv_aload_n hx hb dL_law_1310 rfl (lv_at hl 0 rfl) ?_
  refine lv_iload hx hb dL_law_1311 (lv_at hl 4 rfl) ?_
  refine lv_iconst (v := 1) hx hb dL_law_1313 (by decide) ?_
  refine lv_iadd hx hb dL_law_1314 ?_
  refine va_sld hx hb hX hbl hbA hS hi1 dL_law_1315 ?_
  refine lw_cX (As := [.int (xs (x4 + 1).toNatClampNeg)]) (v := q.1) (h' := (q.2.1, q.2.2, (rX w, kX, nX, 121))) (rest := []) C0 (c_X6_rank (Nat.le_refl _) (by decide) e1) gc_RL_182 qm_X6_rank rfl rfl qc_cl6 rfl (Nat.le_of_ble_eq_true rfl) (fun f => rfl) (by decide) rfl (Nat.le_of_ble_eq_true rfl) hce rfl (Nat.le_of_ble_eq_true rfl) hw hS hl.1 dL_law_1316 (fun H locs hw hS => ?_)
  refine lv_aload_n hx hb dL_law_1319 rfl (lv_at hl 2 rfl) ?_
  refine lv_aload_n hx hb dL_law_1320 rfl (lv_at hl 0 rfl) ?_
  refine lv_iload hx hb dL_law_1321 (lv_at hl 4 rfl) ?_
  refine lv_iconst (v := 1) hx hb dL_law_1323 (by decide) ?_
  refine lv_iadd hx hb dL_law_1324 ?_
  refine va_sld hx hb hX hbl hbA hS hi1 dL_law_1325 ?_
  refine lw_cM (As := [.int (xs (x4 + 1).toNatClampNeg)]) (v := r.1) (h' := (r.2, (fun _ _ => 0), shM)) (rest := [.int q.1]) C0 (c_X7_rank e2) gc_RL_185 qm_X7_rank rfl rfl qc_cl7 rfl (Nat.le_of_ble_eq_true rfl) (fun f => rfl) (by decide) rfl (Nat.le_of_ble_eq_true rfl) hce rfl (Nat.le_of_ble_eq_true rfl) hw hS hl.1 dL_law_1326 (fun H locs hw hS => ?_)
  refine lv_icmp_eq (tgt := 1522) hx hb dL_law_1329 (by decide) (fun _ => ?_) (fun c9 => absurd e3 c9)
  exact go _ _ _ _ adX adM o H locs la hR hw hS hl
theorem lw_k39 {p : Program} {l : Launch} {e : Env} {s : State} {m : MethodId} {below : List Frame} {meth : Method} {c : Code} {b L : Nat} {xs : Nat → Int32} {D : va_G} {ca : Nat → ClassId} {ad0 : Nat → Nat} {qo : Nat} {cL : ClassId} {Rel : (Nat → Nat → Int32) → (Nat → Nat → Int64) → (Nat → Nat) → (Nat → Nat → Int32) → Prop} {x4 : Int32} {cells slots : Nat} (C0 : lw_C p s m meth c b L xs D ca ad0) (hi1 : vp_in (x4 + 1) L) (hi2 : vp_in (x4 + 2) L) (hi3 : vp_in (x4 + 3) L) (hi4 : vp_in (x4 + 4) L) (hi5 : vp_in (x4 + 5) L) (hce : cells ≤ 601024 ∧ slots ≤ 7293034) (st : St_39 Rel) (go : lw_Go p l e s m below meth c b D ca ad0 qo cL Rel x4 cells slots 1522) : lw_Go p l e s m below meth c b D ca ad0 qo cL Rel x4 cells slots 1334 := by
  obtain ⟨hx, hb, hr, hml, hown, hts, hX, hbl, hlocks, hgv⟩ := C0.1
  have hbA : ¬ (fun q : Nat => s.heap.size ≤ q) b := Nat.not_le.mpr hbl
  intro I J w M adX adM o H locs la hR hw hS hl
  obtain ⟨q, r, e1, e2, e3, hR⟩ := st I J w M (xs (x4 + 1).toNatClampNeg) (xs (x4 + 2).toNatClampNeg) hR
  refine lv_aload_n hx hb dL_law_1334 rfl (lv_at hl 1 rfl) ?_
  refine lv_aload_n hx hb dL_law_1335 rfl (lv_at hl 0 rfl) ?_
  refine lv_iload hx hb dL_law_1336 (lv_at hl 4 rfl) ?_
  refine lv_iconst (v := 1) hx hb dL_law_1338 (by decide) ?_
  refine lv_iadd hx hb dL_law_1339 ?_
  refine va_sld hx hb hX hbl hbA hS hi1 dL_law_1340 ?_
  refine lv_aload_n hx hb dL_law_1341 rfl (lv_at hl 0 rfl) ?_
  refine lv_iload hx hb dL_law_1342 (lv_at hl 4 rfl) ?_
  refine lv_iconst (v := 2) hx hb dL_law_1344 (by decide) ?_
  refine lv_iadd hx hb dL_law_1345 ?_
  refine va_sld hx hb hX hbl hbA hS hi2 dL_law_1346 ?_
  refine lw_cX (As := [.int (xs (x4 + 1).toNatClampNeg), .int (xs (x4 + 2).toNatClampNeg)]) (v := q) (h' := (I, J, (rX w, kX, nX, 121))) (rest := []) C0 (c_X6_linked (Nat.le_refl _) (by decide) e1) gc_RL_186 qm_X6_linked rfl rfl qc_cl6 rfl (Nat.le_of_ble_eq_true rfl) (fun f => rfl) (by decide) rfl (Nat.le_of_ble_eq_true rfl) hce rfl (Nat.le_of_ble_eq_true rfl) hw hS hl.1 dL_law_1347 (fun H locs hw hS => ?_)
  refine lv_aload_n hx hb dL_law_1350 rfl (lv_at hl 2 rfl) ?_
  refine lv_aload_n hx hb dL_law_1351 rfl (lv_at hl 0 rfl) ?_
  refine lv_iload hx hb dL_law_1352 (lv_at hl 4 rfl) ?_
  refine lv_iconst (v := 1) hx hb dL_law_1354 (by decide) ?_
  refine lv_iadd hx hb dL_law_1355 ?_
  refine va_sld hx hb hX hbl hbA hS hi1 dL_law_1356 ?_
  refine lv_aload_n hx hb dL_law_1357 rfl (lv_at hl 0 rfl) ?_
  refine lv_iload hx hb dL_law_1358 (lv_at hl 4 rfl) ?_
  refine lv_iconst (v := 2) hx hb dL_law_1360 (by decide) ?_
  refine lv_iadd hx hb dL_law_1361 ?_
  refine va_sld hx hb hX hbl hbA hS hi2 dL_law_1362 ?_
  refine lw_cM (As := [.int (xs (x4 + 1).toNatClampNeg), .int (xs (x4 + 2).toNatClampNeg)]) (v := r.1) (h' := (r.2, (fun _ _ => 0), shM)) (rest := [.int q]) C0 (c_X7_linked e2) gc_RL_189 qm_X7_linked rfl rfl qc_cl7 rfl (Nat.le_of_ble_eq_true rfl) (fun f => rfl) (by decide) rfl (Nat.le_of_ble_eq_true rfl) hce rfl (Nat.le_of_ble_eq_true rfl) hw hS hl.1 dL_law_1363 (fun H locs hw hS => ?_)
  refine lv_icmp_eq (tgt := 1522) hx hb dL_law_1366 (by decide) (fun _ => ?_) (fun c9 => absurd e3 c9)
  exact go _ _ _ _ adX adM o H locs la hR hw hS hl
theorem lw_k40 {p : Program} {l : Launch} {e : Env} {s : State} {m : MethodId} {below : List Frame} {meth : Method} {c : Code} {b L : Nat} {xs : Nat → Int32} {D : va_G} {ca : Nat → ClassId} {ad0 : Nat → Nat} {qo : Nat} {cL : ClassId} {Rel : (Nat → Nat → Int32) → (Nat → Nat → Int64) → (Nat → Nat) → (Nat → Nat → Int32) → Prop} {x4 : Int32} {cells slots : Nat} (C0 : lw_C p s m meth c b L xs D ca ad0) (hi1 : vp_in (x4 + 1) L) (hi2 : vp_in (x4 + 2) L) (hi3 : vp_in (x4 + 3) L) (hi4 : vp_in (x4 + 4) L) (hi5 : vp_in (x4 + 5) L) (hce : cells ≤ 601024 ∧ slots ≤ 7293034) (st : St_40 Rel) (go : lw_Go p l e s m below meth c b D ca ad0 qo cL Rel x4 cells slots 1522) : lw_Go p l e s m below meth c b D ca ad0 qo cL Rel x4 cells slots 1371 := by
  obtain ⟨hx, hb, hr, hml, hown, hts, hX, hbl, hlocks, hgv⟩ := C0.1
  have hbA : ¬ (fun q : Nat => s.heap.size ≤ q) b := Nat.not_le.mpr hbl
  intro I J w M adX adM o H locs la hR hw hS hl
  obtain ⟨q, r, e1, e2, e3, hR⟩ := st I J w M (xs (x4 + 1).toNatClampNeg) hR
  refine lv_aload_n hx hb dL_law_1371 rfl (lv_at hl 1 rfl) ?_
  refine lv_aload_n hx hb dL_law_1372 rfl (lv_at hl 0 rfl) ?_
  refine lv_iload hx hb dL_law_1373 (lv_at hl 4 rfl) ?_
  refine lv_iconst (v := 1) hx hb dL_law_1375 (by decide) ?_
  refine lv_iadd hx hb dL_law_1376 ?_
  refine va_sld hx hb hX hbl hbA hS hi1 dL_law_1377 ?_
  refine lw_cX (As := [.int (xs (x4 + 1).toNatClampNeg)]) (v := q.1) (h' := (q.2.1, q.2.2, (rX w, kX, nX, 121))) (rest := []) C0 (c_X6_mostPower (Nat.le_refl _) (by decide) e1) gc_RL_190 qm_X6_mostPower rfl rfl qc_cl6 rfl (Nat.le_of_ble_eq_true rfl) (fun f => rfl) (by decide) rfl (Nat.le_of_ble_eq_true rfl) hce rfl (Nat.le_of_ble_eq_true rfl) hw hS hl.1 dL_law_1378 (fun H locs hw hS => ?_)
  refine lv_aload_n hx hb dL_law_1381 rfl (lv_at hl 2 rfl) ?_
  refine lv_aload_n hx hb dL_law_1382 rfl (lv_at hl 0 rfl) ?_
  refine lv_iload hx hb dL_law_1383 (lv_at hl 4 rfl) ?_
  refine lv_iconst (v := 1) hx hb dL_law_1385 (by decide) ?_
  refine lv_iadd hx hb dL_law_1386 ?_
  refine va_sld hx hb hX hbl hbA hS hi1 dL_law_1387 ?_
  refine lw_cM (As := [.int (xs (x4 + 1).toNatClampNeg)]) (v := r.1) (h' := (r.2, (fun _ _ => 0), shM)) (rest := [.int q.1]) C0 (c_X7_mostPower e2) gc_RL_193 qm_X7_mostPower rfl rfl qc_cl7 rfl (Nat.le_of_ble_eq_true rfl) (fun f => rfl) (by decide) rfl (Nat.le_of_ble_eq_true rfl) hce rfl (Nat.le_of_ble_eq_true rfl) hw hS hl.1 dL_law_1388 (fun H locs hw hS => ?_)
  refine lv_icmp_eq (tgt := 1522) hx hb dL_law_1391 (by decide) (fun _ => ?_) (fun c9 => absurd e3 c9)
  exact go _ _ _ _ adX adM o H locs la hR hw hS hl
theorem lw_k41 {p : Program} {l : Launch} {e : Env} {s : State} {m : MethodId} {below : List Frame} {meth : Method} {c : Code} {b L : Nat} {xs : Nat → Int32} {D : va_G} {ca : Nat → ClassId} {ad0 : Nat → Nat} {qo : Nat} {cL : ClassId} {Rel : (Nat → Nat → Int32) → (Nat → Nat → Int64) → (Nat → Nat) → (Nat → Nat → Int32) → Prop} {x4 : Int32} {cells slots : Nat} (C0 : lw_C p s m meth c b L xs D ca ad0) (hi1 : vp_in (x4 + 1) L) (hi2 : vp_in (x4 + 2) L) (hi3 : vp_in (x4 + 3) L) (hi4 : vp_in (x4 + 4) L) (hi5 : vp_in (x4 + 5) L) (hce : cells ≤ 601024 ∧ slots ≤ 7293034) (st : St_41 Rel) (go : lw_Go p l e s m below meth c b D ca ad0 qo cL Rel x4 cells slots 1522) : lw_Go p l e s m below meth c b D ca ad0 qo cL Rel x4 cells slots 1396 := by
  obtain ⟨hx, hb, hr, hml, hown, hts, hX, hbl, hlocks, hgv⟩ := C0.1
  have hbA : ¬ (fun q : Nat => s.heap.size ≤ q) b := Nat.not_le.mpr hbl
  intro I J w M adX adM o H locs la hR hw hS hl
  obtain ⟨q, r, e1, e2, e3, hR⟩ := st I J w M  hR
  refine lv_aload_n hx hb dL_law_1396 rfl (lv_at hl 1 rfl) ?_
  refine lw_cX (As := []) (v := q.1) (h' := (q.2.1, q.2.2, (rX w, kX, nX, 121))) (rest := []) C0 (c_X6_mostGuard (Nat.le_refl _) (by decide) e1) gc_RL_194 qm_X6_mostGuard rfl rfl qc_cl6 rfl (Nat.le_of_ble_eq_true rfl) (fun f => rfl) (by decide) rfl (Nat.le_of_ble_eq_true rfl) hce rfl (Nat.le_of_ble_eq_true rfl) hw hS hl.1 dL_law_1397 (fun H locs hw hS => ?_)
  refine lv_aload_n hx hb dL_law_1400 rfl (lv_at hl 2 rfl) ?_
  refine lw_cM (As := []) (v := r.1) (h' := (r.2, (fun _ _ => 0), shM)) (rest := [.int q.1]) C0 (c_X7_mostGuard e2) gc_RL_197 qm_X7_mostGuard rfl rfl qc_cl7 rfl (Nat.le_of_ble_eq_true rfl) (fun f => rfl) (by decide) rfl (Nat.le_of_ble_eq_true rfl) hce rfl (Nat.le_of_ble_eq_true rfl) hw hS hl.1 dL_law_1401 (fun H locs hw hS => ?_)
  refine lv_icmp_eq (tgt := 1522) hx hb dL_law_1404 (by decide) (fun _ => ?_) (fun c9 => absurd e3 c9)
  exact go _ _ _ _ adX adM o H locs la hR hw hS hl
theorem lw_k42 {p : Program} {l : Launch} {e : Env} {s : State} {m : MethodId} {below : List Frame} {meth : Method} {c : Code} {b L : Nat} {xs : Nat → Int32} {D : va_G} {ca : Nat → ClassId} {ad0 : Nat → Nat} {qo : Nat} {cL : ClassId} {Rel : (Nat → Nat → Int32) → (Nat → Nat → Int64) → (Nat → Nat) → (Nat → Nat → Int32) → Prop} {x4 : Int32} {cells slots : Nat} (C0 : lw_C p s m meth c b L xs D ca ad0) (hi1 : vp_in (x4 + 1) L) (hi2 : vp_in (x4 + 2) L) (hi3 : vp_in (x4 + 3) L) (hi4 : vp_in (x4 + 4) L) (hi5 : vp_in (x4 + 5) L) (hce : cells ≤ 601024 ∧ slots ≤ 7293034) (st : St_42 Rel) (go : lw_Go p l e s m below meth c b D ca ad0 qo cL Rel x4 cells slots 1522) : lw_Go p l e s m below meth c b D ca ad0 qo cL Rel x4 cells slots 1409 := by
  obtain ⟨hx, hb, hr, hml, hown, hts, hX, hbl, hlocks, hgv⟩ := C0.1
  have hbA : ¬ (fun q : Nat => s.heap.size ≤ q) b := Nat.not_le.mpr hbl
  intro I J w M adX adM o H locs la hR hw hS hl
  obtain ⟨q, r, e1, e2, e3, hR⟩ := st I J w M (xs (x4 + 1).toNatClampNeg) (xs (x4 + 2).toNatClampNeg) (xs (x4 + 3).toNatClampNeg) hR
  refine lv_aload_n hx hb dL_law_1409 rfl (lv_at hl 1 rfl) ?_
  refine lv_aload_n hx hb dL_law_1410 rfl (lv_at hl 0 rfl) ?_
  refine lv_iload hx hb dL_law_1411 (lv_at hl 4 rfl) ?_
  refine lv_iconst (v := 1) hx hb dL_law_1413 (by decide) ?_
  refine lv_iadd hx hb dL_law_1414 ?_
  refine va_sld hx hb hX hbl hbA hS hi1 dL_law_1415 ?_
  refine lv_aload_n hx hb dL_law_1416 rfl (lv_at hl 0 rfl) ?_
  refine lv_iload hx hb dL_law_1417 (lv_at hl 4 rfl) ?_
  refine lv_iconst (v := 2) hx hb dL_law_1419 (by decide) ?_
  refine lv_iadd hx hb dL_law_1420 ?_
  refine va_sld hx hb hX hbl hbA hS hi2 dL_law_1421 ?_
  refine lv_aload_n hx hb dL_law_1422 rfl (lv_at hl 0 rfl) ?_
  refine lv_iload hx hb dL_law_1423 (lv_at hl 4 rfl) ?_
  refine lv_iconst (v := 3) hx hb dL_law_1425 (by decide) ?_
  refine lv_iadd hx hb dL_law_1426 ?_
  refine va_sld hx hb hX hbl hbA hS hi3 dL_law_1427 ?_
  refine lw_cX (As := [.int (xs (x4 + 1).toNatClampNeg), .int (xs (x4 + 2).toNatClampNeg), .int (xs (x4 + 3).toNatClampNeg)]) (v := q.1) (h' := (q.2.1, q.2.2, (rX w, kX, nX, 121))) (rest := []) C0 (c_X6_chance (Nat.le_refl _) (by decide) e1) gc_RL_198 qm_X6_chance rfl rfl qc_cl6 rfl (Nat.le_of_ble_eq_true rfl) (fun f => rfl) (by decide) rfl (Nat.le_of_ble_eq_true rfl) hce rfl (Nat.le_of_ble_eq_true rfl) hw hS hl.1 dL_law_1428 (fun H locs hw hS => ?_)
  refine lv_aload_n hx hb dL_law_1431 rfl (lv_at hl 2 rfl) ?_
  refine lv_aload_n hx hb dL_law_1432 rfl (lv_at hl 0 rfl) ?_
  refine lv_iload hx hb dL_law_1433 (lv_at hl 4 rfl) ?_
  refine lv_iconst (v := 1) hx hb dL_law_1435 (by decide) ?_
  refine lv_iadd hx hb dL_law_1436 ?_
  refine va_sld hx hb hX hbl hbA hS hi1 dL_law_1437 ?_
  refine lv_aload_n hx hb dL_law_1438 rfl (lv_at hl 0 rfl) ?_
  refine lv_iload hx hb dL_law_1439 (lv_at hl 4 rfl) ?_
  refine lv_iconst (v := 2) hx hb dL_law_1441 (by decide) ?_
  refine lv_iadd hx hb dL_law_1442 ?_
  refine va_sld hx hb hX hbl hbA hS hi2 dL_law_1443 ?_
  refine lv_aload_n hx hb dL_law_1444 rfl (lv_at hl 0 rfl) ?_
  refine lv_iload hx hb dL_law_1445 (lv_at hl 4 rfl) ?_
  refine lv_iconst (v := 3) hx hb dL_law_1447 (by decide) ?_
  refine lv_iadd hx hb dL_law_1448 ?_
  refine va_sld hx hb hX hbl hbA hS hi3 dL_law_1449 ?_
  refine lw_cM (As := [.int (xs (x4 + 1).toNatClampNeg), .int (xs (x4 + 2).toNatClampNeg), .int (xs (x4 + 3).toNatClampNeg)]) (v := r.1) (h' := (r.2, (fun _ _ => 0), shM)) (rest := [.int q.1]) C0 (c_X7_chance e2) gc_RL_202 qm_X7_chance rfl rfl qc_cl7 rfl (Nat.le_of_ble_eq_true rfl) (fun f => rfl) (by decide) rfl (Nat.le_of_ble_eq_true rfl) hce rfl (Nat.le_of_ble_eq_true rfl) hw hS hl.1 dL_law_1450 (fun H locs hw hS => ?_)
  refine lv_icmp_eq (tgt := 1522) hx hb dL_law_1453 (by decide) (fun _ => ?_) (fun c9 => absurd e3 c9)
  exact go _ _ _ _ adX adM o H locs la hR hw hS hl
theorem lw_k43 {p : Program} {l : Launch} {e : Env} {s : State} {m : MethodId} {below : List Frame} {meth : Method} {c : Code} {b L : Nat} {xs : Nat → Int32} {D : va_G} {ca : Nat → ClassId} {ad0 : Nat → Nat} {qo : Nat} {cL : ClassId} {Rel : (Nat → Nat → Int32) → (Nat → Nat → Int64) → (Nat → Nat) → (Nat → Nat → Int32) → Prop} {x4 : Int32} {cells slots : Nat} (C0 : lw_C p s m meth c b L xs D ca ad0) (hi1 : vp_in (x4 + 1) L) (hi2 : vp_in (x4 + 2) L) (hi3 : vp_in (x4 + 3) L) (hi4 : vp_in (x4 + 4) L) (hi5 : vp_in (x4 + 5) L) (hce : cells ≤ 601024 ∧ slots ≤ 7293034) (st : St_43 Rel) (go : lw_Go p l e s m below meth c b D ca ad0 qo cL Rel x4 cells slots 1522) : lw_Go p l e s m below meth c b D ca ad0 qo cL Rel x4 cells slots 1458 := by
  obtain ⟨hx, hb, hr, hml, hown, hts, hX, hbl, hlocks, hgv⟩ := C0.1
  have hbA : ¬ (fun q : Nat => s.heap.size ≤ q) b := Nat.not_le.mpr hbl
  intro I J w M adX adM o H locs la hR hw hS hl
  obtain ⟨q, r, e1, e2, e3, hR⟩ := st I J w M  hR
  refine lv_aload_n hx hb dL_law_1458 rfl (lv_at hl 1 rfl) ?_
  refine lw_cX (As := []) (v := q.1) (h' := (q.2.1, q.2.2, (rX w, kX, nX, 121))) (rest := []) C0 (c_X6_undo (Nat.le_refl _) (by decide) e1) gc_RL_203 qm_X6_undo rfl rfl qc_cl6 rfl (Nat.le_of_ble_eq_true rfl) (fun f => rfl) (by decide) rfl (Nat.le_of_ble_eq_true rfl) hce rfl (Nat.le_of_ble_eq_true rfl) hw hS hl.1 dL_law_1459 (fun H locs hw hS => ?_)
  refine lv_aload_n hx hb dL_law_1462 rfl (lv_at hl 2 rfl) ?_
  refine lw_cM (As := []) (v := r.1) (h' := (r.2, (fun _ _ => 0), shM)) (rest := [.int q.1]) C0 (c_X7_undo e2) gc_RL_206 qm_X7_undo rfl rfl qc_cl7 rfl (Nat.le_of_ble_eq_true rfl) (fun f => rfl) (by decide) rfl (Nat.le_of_ble_eq_true rfl) hce rfl (Nat.le_of_ble_eq_true rfl) hw hS hl.1 dL_law_1463 (fun H locs hw hS => ?_)
  refine lv_icmp_eq (tgt := 1522) hx hb dL_law_1466 (by decide) (fun _ => ?_) (fun c9 => absurd e3 c9)
  exact go _ _ _ _ adX adM o H locs la hR hw hS hl
theorem lw_k44 {p : Program} {l : Launch} {e : Env} {s : State} {m : MethodId} {below : List Frame} {meth : Method} {c : Code} {b L : Nat} {xs : Nat → Int32} {D : va_G} {ca : Nat → ClassId} {ad0 : Nat → Nat} {qo : Nat} {cL : ClassId} {Rel : (Nat → Nat → Int32) → (Nat → Nat → Int64) → (Nat → Nat) → (Nat → Nat → Int32) → Prop} {x4 : Int32} {cells slots : Nat} (C0 : lw_C p s m meth c b L xs D ca ad0) (hi1 : vp_in (x4 + 1) L) (hi2 : vp_in (x4 + 2) L) (hi3 : vp_in (x4 + 3) L) (hi4 : vp_in (x4 + 4) L) (hi5 : vp_in (x4 + 5) L) (hce : cells ≤ 601024 ∧ slots ≤ 7293034) (st : St_44 Rel) (go : lw_Go p l e s m below meth c b D ca ad0 qo cL Rel x4 cells slots 1522) : lw_Go p l e s m below meth c b D ca ad0 qo cL Rel x4 cells slots 1471 := by
  obtain ⟨hx, hb, hr, hml, hown, hts, hX, hbl, hlocks, hgv⟩ := C0.1
  have hbA : ¬ (fun q : Nat => s.heap.size ≤ q) b := Nat.not_le.mpr hbl
  intro I J w M adX adM o H locs la hR hw hS hl
  obtain ⟨q, r, e1, e2, e3, hR⟩ := st I J w M  hR
  refine lv_aload_n hx hb dL_law_1471 rfl (lv_at hl 1 rfl) ?_
  refine lw_cX (As := []) (v := q.1) (h' := (q.2.1, q.2.2, (rX w, kX, nX, 121))) (rest := []) C0 (c_X6_keep (Nat.le_refl _) (by decide) e1) gc_RL_207 qm_X6_keep rfl rfl qc_cl6 rfl (Nat.le_of_ble_eq_true rfl) (fun f => rfl) (by decide) rfl (Nat.le_of_ble_eq_true rfl) hce rfl (Nat.le_of_ble_eq_true rfl) hw hS hl.1 dL_law_1472 (fun H locs hw hS => ?_)
  refine lv_aload_n hx hb dL_law_1475 rfl (lv_at hl 2 rfl) ?_
  refine lw_cM (As := []) (v := r.1) (h' := (r.2, (fun _ _ => 0), shM)) (rest := [.int q.1]) C0 (c_X7_keep e2) gc_RL_210 qm_X7_keep rfl rfl qc_cl7 rfl (Nat.le_of_ble_eq_true rfl) (fun f => rfl) (by decide) rfl (Nat.le_of_ble_eq_true rfl) hce rfl (Nat.le_of_ble_eq_true rfl) hw hS hl.1 dL_law_1476 (fun H locs hw hS => ?_)
  refine lv_icmp_eq (tgt := 1522) hx hb dL_law_1479 (by decide) (fun _ => ?_) (fun c9 => absurd e3 c9)
  exact go _ _ _ _ adX adM o H locs la hR hw hS hl
theorem lw_k45 {p : Program} {l : Launch} {e : Env} {s : State} {m : MethodId} {below : List Frame} {meth : Method} {c : Code} {b L : Nat} {xs : Nat → Int32} {D : va_G} {ca : Nat → ClassId} {ad0 : Nat → Nat} {qo : Nat} {cL : ClassId} {Rel : (Nat → Nat → Int32) → (Nat → Nat → Int64) → (Nat → Nat) → (Nat → Nat → Int32) → Prop} {x4 : Int32} {cells slots : Nat} (C0 : lw_C p s m meth c b L xs D ca ad0) (hi1 : vp_in (x4 + 1) L) (hi2 : vp_in (x4 + 2) L) (hi3 : vp_in (x4 + 3) L) (hi4 : vp_in (x4 + 4) L) (hi5 : vp_in (x4 + 5) L) (hce : cells ≤ 601024 ∧ slots ≤ 7293034) (st : St_45 Rel) (go : lw_Go p l e s m below meth c b D ca ad0 qo cL Rel x4 cells slots 1522) : lw_Go p l e s m below meth c b D ca ad0 qo cL Rel x4 cells slots 1484 := by
  obtain ⟨hx, hb, hr, hml, hown, hts, hX, hbl, hlocks, hgv⟩ := C0.1
  have hbA : ¬ (fun q : Nat => s.heap.size ≤ q) b := Nat.not_le.mpr hbl
  intro I J w M adX adM o H locs la hR hw hS hl
  obtain ⟨q, r, e1, e2, e3, hR⟩ := st I J w M  hR
  refine lv_aload_n hx hb dL_law_1484 rfl (lv_at hl 1 rfl) ?_
  refine lw_cX (As := []) (v := q.1) (h' := (q.2.1, q.2.2, (rX w, kX, nX, 121))) (rest := []) C0 (c_X6_back (Nat.le_refl _) (by decide) e1) gc_RL_211 qm_X6_back rfl rfl qc_cl6 rfl (Nat.le_of_ble_eq_true rfl) (fun f => rfl) (by decide) rfl (Nat.le_of_ble_eq_true rfl) hce rfl (Nat.le_of_ble_eq_true rfl) hw hS hl.1 dL_law_1485 (fun H locs hw hS => ?_)
  refine lv_aload_n hx hb dL_law_1488 rfl (lv_at hl 2 rfl) ?_
  refine lw_cM (As := []) (v := r.1) (h' := (r.2, (fun _ _ => 0), shM)) (rest := [.int q.1]) C0 (c_X7_back e2) gc_RL_214 qm_X7_back rfl rfl qc_cl7 rfl (Nat.le_of_ble_eq_true rfl) (fun f => rfl) (by decide) rfl (Nat.le_of_ble_eq_true rfl) hce rfl (Nat.le_of_ble_eq_true rfl) hw hS hl.1 dL_law_1489 (fun H locs hw hS => ?_)
  refine lv_icmp_eq (tgt := 1522) hx hb dL_law_1492 (by decide) (fun _ => ?_) (fun c9 => absurd e3 c9)
  exact go _ _ _ _ adX adM o H locs la hR hw hS hl
theorem lw_k46 {p : Program} {l : Launch} {e : Env} {s : State} {m : MethodId} {below : List Frame} {meth : Method} {c : Code} {b L : Nat} {xs : Nat → Int32} {D : va_G} {ca : Nat → ClassId} {ad0 : Nat → Nat} {qo : Nat} {cL : ClassId} {Rel : (Nat → Nat → Int32) → (Nat → Nat → Int64) → (Nat → Nat) → (Nat → Nat → Int32) → Prop} {x4 : Int32} {cells slots : Nat} (C0 : lw_C p s m meth c b L xs D ca ad0) (hi1 : vp_in (x4 + 1) L) (hi2 : vp_in (x4 + 2) L) (hi3 : vp_in (x4 + 3) L) (hi4 : vp_in (x4 + 4) L) (hi5 : vp_in (x4 + 5) L) (hce : cells ≤ 601024 ∧ slots ≤ 7293034) (st : St_46 Rel) (go : lw_Go p l e s m below meth c b D ca ad0 qo cL Rel x4 cells slots 1522) : lw_Go p l e s m below meth c b D ca ad0 qo cL Rel x4 cells slots 1497 := by
  obtain ⟨hx, hb, hr, hml, hown, hts, hX, hbl, hlocks, hgv⟩ := C0.1
  have hbA : ¬ (fun q : Nat => s.heap.size ≤ q) b := Nat.not_le.mpr hbl
  intro I J w M adX adM o H locs la hR hw hS hl
  obtain ⟨q, r, e1, e2, e3, hR⟩ := st I J w M (xs (x4 + 1).toNatClampNeg) hR
  refine lv_aload_n hx hb dL_law_1497 rfl (lv_at hl 1 rfl) ?_
  refine lv_aload_n hx hb dL_law_1498 rfl (lv_at hl 0 rfl) ?_
  refine lv_iload hx hb dL_law_1499 (lv_at hl 4 rfl) ?_
  refine lv_iconst (v := 1) hx hb dL_law_1501 (by decide) ?_
  refine lv_iadd hx hb dL_law_1502 ?_
  refine va_sld hx hb hX hbl hbA hS hi1 dL_law_1503 ?_
  refine lw_cX (As := [.int (xs (x4 + 1).toNatClampNeg)]) (v := q) (h' := (I, J, (rX w, kX, nX, 121))) (rest := []) C0 (c_X6_count (Nat.le_refl _) (by decide) e1) gc_RL_215 qm_X6_count rfl rfl qc_cl6 rfl (Nat.le_of_ble_eq_true rfl) (fun f => rfl) (by decide) rfl (Nat.le_of_ble_eq_true rfl) hce rfl (Nat.le_of_ble_eq_true rfl) hw hS hl.1 dL_law_1504 (fun H locs hw hS => ?_)
  refine lv_aload_n hx hb dL_law_1507 rfl (lv_at hl 2 rfl) ?_
  refine lv_aload_n hx hb dL_law_1508 rfl (lv_at hl 0 rfl) ?_
  refine lv_iload hx hb dL_law_1509 (lv_at hl 4 rfl) ?_
  refine lv_iconst (v := 1) hx hb dL_law_1511 (by decide) ?_
  refine lv_iadd hx hb dL_law_1512 ?_
  refine va_sld hx hb hX hbl hbA hS hi1 dL_law_1513 ?_
  refine lw_cM (As := [.int (xs (x4 + 1).toNatClampNeg)]) (v := r.1) (h' := (r.2, (fun _ _ => 0), shM)) (rest := [.int q]) C0 (c_X7_count e2) gc_RL_218 qm_X7_count rfl rfl qc_cl7 rfl (Nat.le_of_ble_eq_true rfl) (fun f => rfl) (by decide) rfl (Nat.le_of_ble_eq_true rfl) hce rfl (Nat.le_of_ble_eq_true rfl) hw hS hl.1 dL_law_1514 (fun H locs hw hS => ?_)
  refine lv_icmp_eq (tgt := 1522) hx hb dL_law_1517 (by decide) (fun _ => ?_) (fun c9 => absurd e3 c9)
  exact go _ _ _ _ adX adM o H locs la hR hw hS hl
