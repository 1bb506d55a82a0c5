/-! from the law's entry to its loop -/
theorem lw_spl {D : va_G} {cl : List vw_C} {A : Nat → Prop} {ws : va_W} {x : Nat × va_E} {H : Heap} (hP : va_P D cl (ws ++ [x]) H) (hD : va_D A (ws ++ [x])) : va_P D cl ws H ∧ va_P D cl [x] H ∧ va_D A [x] ∧ ∀ (i : Nat) (y : Nat × va_E), ws[i]? = some y → y.1 ≠ x.1 := by
  have hx : (ws ++ [x])[ws.length]? = some x := by simp
  have hl : ∀ (i : Nat) (y : Nat × va_E), ws[i]? = some y → (ws ++ [x])[i]? = some y ∧ i < ws.length := fun i y h => by
    have hi := (List.getElem?_eq_some_iff.mp h).1
    exact ⟨by rw [List.getElem?_append_left hi]; exact h, hi⟩
  have h1 : ∀ (i : Nat) (y : Nat × va_E), [x][i]? = some y → i = 0 ∧ y = x := fun i y h => by
    have h0 : i < 1 := (List.getElem?_eq_some_iff.mp h).1
    rw [show i = 0 by omega] at h
    cases h
    exact ⟨by omega, rfl⟩
  refine ⟨fun i y h => hP i y (hl i y h).1, fun i y h => ?_, ⟨fun i j y z hi hj _ => ?_, fun i y h => ?_⟩, fun i y h e => ?_⟩
  · obtain ⟨-, rfl⟩ := h1 i y h
    exact hP _ _ hx
  · rw [(h1 i y hi).1, (h1 j z hj).1]
  · obtain ⟨-, rfl⟩ := h1 i y h
    exact hD.2 _ _ hx
  · have := hD.1 i ws.length y x (hl i y h).1 hx e
    have := (hl i y h).2
    omega
set_option maxHeartbeats 2000000 in
theorem lw_begin {p : Program} {l : Launch} {e : Env} {s : State} {m : MethodId} {below : List Frame} {meth : Method} {c : Code} {b L : Nat} {xs : Nat → Int32} {D : va_G} {ca : Nat → ClassId} {ad0 : Nat → Nat} {Rel : (Nat → Nat → Int32) → (Nat → Nat → Int64) → (Nat → Nat) → (Nat → Nat → Int32) → Prop} (C0 : lw_C p s m meth c b L xs D ca ad0) (hL : L ≤ 3072) (hl9 : l.stackTraces = false) (hRw : ∀ I J w M, Rel I J w M → ∀ j, 12 ≤ w j ∧ w j < 121) (st : St Rel) {I1 I2 I3 : Nat → Nat → Int32} (h1 : P_X7_freshText iM0 = some I1) (h2 : P_X7_takeText I1 = some I2) (h3 : P_X7_begins I2 = some I3) (hR0 : Rel iX0 (fun _ _ => 0) w0X I3) :
    W p l e room_1 s m #[Value.ref b] below meth c s.heap [] 0 0 (lw_Z below #[Value.ref b] s) (entryFrame m ([Value.ref b] : List Value).toArray 7) := by
  obtain ⟨⟨hx, hb, hr, hml, hown, hts9, hX, hbl, hlocks, hgv⟩, hG, hg⟩ := id C0
  have hts : ∀ w ∈ qc_GW, w.before #[Value.ref b] s = true := fun w hw => hts9 w (List.mem_filter.mp hw).1
  have hA : ∀ q : Nat, s.heap.size ≤ q → (fun q : Nat => s.heap.size ≤ q) q := fun _ h => h
  obtain ⟨-, hc6, hin6, -, hty6, -⟩ := qc_cl6
  obtain ⟨-, hc7, hin7, -, hty7, -⟩ := qc_cl7
  have hl := lv_entry ([.ref b]) (n := 7) (Nat.le_of_ble_eq_true rfl)
  rw [lg_entry_eq]
  generalize (lg_sl ([.ref b]) ++ List.replicate (7 - (lg_sl ([.ref b])).length) Slot.unset).toArray = la at hl ⊢
  have hl : lv_has la 7 [(0, .ref b)] := hl
  have hP0 : va_P D vwCl [] s.heap := fun k q h => by simp at h
  have hD0 : va_D (fun q : Nat => s.heap.size ≤ q) [] := ⟨fun i j p q h => by simp at h, fun k q h => by simp at h⟩
  -- the class's object
  refine va_new (ci := 6) hx hb hts hin6 _ hty6 hown (hts _ ww_133) (hts _ ww_134) (hts _ ww_112) hG.1 hP0 hD0 va_S.rf hA hc6 (lw_dv qc_dv6) (by decide) (by decide) dL_law_0 (fun q H hP hD hS => ?_)
  have hwX : qc_wk D ca (fun q => s.heap.size ≤ q) (qc_u ad0 0 q) ((fun _ _ => 0), (fun _ _ => 0), ((fun _ _ => none), kX, nX, 1)) H := by
    unfold qc_wk
    rw [lw_nw qc_cl6 rfl]
    exact ⟨hP, hD⟩
  refine lv_dup hx hb dL_law_3 rfl ?_
  have e0 : Value.ref q = Value.ref (qc_u ad0 0 q 0) := by rw [qc_u_s]
  rw [show ([Value.ref q, Value.ref q] : List Value) = [Value.ref (qc_u ad0 0 q 0), Value.ref q] by rw [qc_u_s]]
  refine lw_callI (own := RL) (R := room_1) (rest := [.ref q]) hx hb hml hown hts hG c_X6_init ⟨ww_135, ww_136, ww_112⟩ qm_X6_init rfl (by decide) (by decide) (Nat.le_of_ble_eq_true rfl) hwX lw_ro hS hl.1 dL_law_4 (fun adX H1 locs1 wX agX inX zX kX1 hS1 => ?_)
  have hX0 : adX 0 = q := (agX 0 (fun z => absurd z.1 (by decide))).trans (qc_u_s _ _ _)
  have hXr : ∀ i, i < 30 → adX (qc_RO + i) = ad0 (qc_RO + i) := fun i hi => (agX _ (fun z => by
    have : qc_RO + i < 121 := z.2
    unfold qc_RO at this
    omega)).trans (lw_ro i hi)
  refine lv_astore_n (lv' := [(1, .ref q), (0, .ref b)]) hx hb dL_law_7 rfl hl (by decide) rfl (fun la hl => ?_)
  -- the reference's object
  refine va_new (ci := 7) hx hb hts hin7 _ hty7 hown (hts _ ww_1058) (hts _ ww_1059) (hts _ ww_118) hG.1 wX.1 wX.2 hS1 hA hc7 (lw_dv qc_dv7) (by decide) (by decide) dL_law_8 (fun q2 H2 hP2 hD2 hS2 => ?_)
  obtain ⟨sP, sQ, sD, sN⟩ := lw_spl hP2 hD2
  have wX2 : qc_wk D ca (fun q => s.heap.size ≤ q) adX (iX0, (fun _ _ => 0), (rX w0X, kX, nX, 121)) H2 := ⟨sP, wX.2⟩
  have hXq2 : ∀ t, t < 121 → adX t ≠ q2 := fun t ht => sN t _ (qc_W_at (h := (iX0, (fun _ _ => 0), (rX w0X, kX, nX, 121))) ht)
  have wM1 : qc_wk D ca (fun q => s.heap.size ≤ q) (qc_u ad0 0 q2) ((fun _ _ => 0), (fun _ _ => 0), ((fun _ _ => none), kM, nM, 1)) H2 := by
    unfold qc_wk
    rw [lw_nw qc_cl7 rfl]
    exact ⟨sQ, sD⟩
  refine lv_dup hx hb dL_law_11 rfl ?_
  rw [show ([Value.ref q2, Value.ref q2] : List Value) = [Value.ref (qc_u ad0 0 q2 0), Value.ref q2] by rw [qc_u_s]]
  refine lw_callI (own := RL) (R := room_1) (rest := [.ref q2]) hx hb hml hown hts hG (c_X7_init h1 h2 h3) ⟨ww_1060, ww_1061, ww_118⟩ qm_X7_init rfl (by decide) (by decide) (Nat.le_of_ble_eq_true rfl) wM1 lw_ro hS2 hl.1 dL_law_12 (fun adM H3 locs3 wM agM inM zM kM1 hS3 => ?_)
  have hM0 : adM 0 = q2 := (agM 0 (fun z => absurd z.1 (by decide))).trans (qc_u_s _ _ _)
  have hMr : ∀ i, i < 30 → adM (qc_RO + i) = ad0 (qc_RO + i) := fun i hi => (agM _ (fun z => by
    have : qc_RO + i < 25 := z.2
    unfold qc_RO at this
    omega)).trans (lw_ro i hi)
  have hXA : ∀ t, t < 121 → ¬ lw_A1 1 (qc_u ad0 0 q2) H2 (adX t) := fun t ht hq => by
    rcases hq with ⟨u, hu, e⟩ | hq
    · rw [show u = 0 by omega, qc_u_s] at e
      exact hXq2 t ht e
    · have : adX t < H2.size := wX2.lt ht
      omega
  have wX3 : qc_wk D ca (fun q => s.heap.size ≤ q) adX (iX0, (fun _ _ => 0), (rX w0X, kX, nX, 121)) H3 := wX2.kept (fun t ht => kM1 _ (wX2.lt ht) (hXA t ht))
  have hdis : ∀ t u, t < 121 → u < 25 → adX t ≠ adM u := fun t u ht hu e => hXA t ht (e ▸ inM u hu)
  refine lv_astore_n (lv' := [(2, .ref q2), (1, .ref q), (0, .ref b)]) hx hb dL_law_15 rfl hl (by decide) rfl (fun la hl => ?_)
  refine lv_iconst (v := 1) hx hb dL_law_16 (by decide) ?_
  -- the row of one long
  refine va_newaK (atype := .long) (n := 1) (N := 1) hx hb (hts _ ww_1760) (g := F0 m 17 la [.int 1]) rfl dL_law_17 (rest := []) rfl (by decide) rfl (by decide) (by decide) (by decide) (h := H3.size) rfl (fun H4 cL hq4 hz4 hk4 hAr hfc => ?_)
  have hKl : va_K D vwCl [(cL, .long)] s := ⟨hG.1.1, fun k x hx => by
    have h0 : k < 1 := (List.getElem?_eq_some_iff.mp hx).1
    rw [show k = 0 by omega] at hx
    cases hx
    exact ⟨hAr, hfc⟩⟩
  have wX4 := wX3.kept (fun t ht => hk4 _ (wX3.lt ht))
  have wM4 := wM.kept (fun t ht => hk4 _ (wM.lt ht))
  have hz3 : s.heap.size ≤ H3.size := hS3.1
  have hS4 : va_S (fun q => s.heap.size ≤ q) s.heap H4 locs3 := ⟨by omega, fun q h1 h2 => (hk4 q (Nat.lt_of_lt_of_le h1 hz3)).trans (hS3.2.1 q h1 h2), hS3.2.2⟩
  have hw : lw_w D ca s.heap.size ad0 adX adM (iX0, (fun _ _ => 0), (rX w0X, kX, nX, 121)) (I3, (fun _ _ => 0), shM) H3.size cL 0 H4 :=
    ⟨wX4, wM4, hdis, ⟨fun t ht => Nat.ne_of_lt (wX3.lt ht), fun t ht => Nat.ne_of_lt (wM.lt ht)⟩, hq4, hz3, hXr, hMr⟩
  change W _ _ _ _ _ _ _ _ _ _ H4 _ _ _ _ (F0 m 19 la [.ref H3.size])
  refine lv_astore_n (lv' := [(3, .ref H3.size), (2, .ref q2), (1, .ref q), (0, .ref b)]) hx hb dL_law_19 rfl hl (by decide) rfl (fun la hl => ?_)
  refine lv_iconst (v := nI (6 * 0)) hx hb dL_law_20 (by decide) ?_
  refine lv_istore (lv' := [(4, .int (nI (6 * 0))), (3, .ref H3.size), (2, .ref q2), (1, .ref q), (0, .ref b)]) hx hb dL_law_21 hl (by decide) rfl (fun la hl => ?_)
  refine W.widen (k := 200 + 11 * 0) (n := 15000 + 98 * 0) (by decide) (by decide) ?_
  refine lw_loop C0 hL hKl hl9 hRw st (L + 2) 0 (by omega) (by omega) iX0 (fun _ _ => 0) w0X I3 adX adM 0 H4 locs3 la hR0 hw hS4 ?_
  rw [hX0, hM0]
  exact lv_sub hl [4, 3, 2, 1, 0] rfl
