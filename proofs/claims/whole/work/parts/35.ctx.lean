/-! THE CONTEXT AT THE LAW'S ENTRY -/
abbrev cx_F : List Cond := flatC (Jvm.Cond.and given_1 narrow_1)
abbrev cx_tm (i : Nat) : Term := .string (qc_to i).1 (qc_to i).2.1
theorem cx_fn : ∀ q ∈ qc_fn, Cond.fieldLinkNest q.1 q.2.1 q.2.2.1 q.2.2.2.1 q.2.2.2.2.1 q.2.2.2.2.2 ∈ lw_tbl := by decide +kernel
theorem cx_mn : ∀ q ∈ qc_mn, Cond.methodLinkNest q.1 q.2.1 q.2.2.1 q.2.2.2 ∈ lw_tbl := by decide +kernel
theorem cx_el : ∀ i, i < 6 → ∀ j, j < 6 → Cond.eq (.elem (.static "QuietChannels" (qc_sn i) "[I") (.int (Int32.ofNat j))) (.int ((qc_sv i).getD j 0)) ∈ cx_F := by decide +kernel
theorem cx_ar : ∀ i, i < 6 → Cond.arrayOf (.static "QuietChannels" (qc_sn i) "[I") .int ∈ cx_F := by decide +kernel
theorem cx_le : ∀ i, i < 6 → Cond.eq (.length (.static "QuietChannels" (qc_sn i) "[I")) (.int (Int32.ofNat 6)) ∈ cx_F := by decide +kernel
theorem cx_ls : ∀ i, i < 6 → Cond.laysStatic "QuietChannels" (qc_sn i) "[I" ∈ lw_tbl := by decide +kernel
theorem cx_tx : ∀ i, i < 3 → Cond.exactly (cx_tm i) "java/lang/String" ∈ cx_F ∧ Cond.eq (.field (cx_tm i) "java/lang/String" "coder" "B") (.int 0) ∈ cx_F ∧ Cond.arrayOf (.field (cx_tm i) "java/lang/String" "value" "[B") .byte ∈ cx_F ∧ Cond.eq (.length (.field (cx_tm i) "java/lang/String" "value" "[B")) (.int (Int32.ofNat (qc_tl.getD i 0))) ∈ cx_F := by decide +kernel
theorem cx_tb : ∀ i, i < 3 → ∀ j, j < qc_tl.getD i 0 → Cond.eq (.elem (.field (cx_tm i) "java/lang/String" "value" "[B") (.int (Int32.ofNat j))) (.int ((qc_tb.getD i []).getD j 0)) ∈ cx_F := by decide +kernel
theorem cx_sr : ∀ i, i < 3 → Cond.stringRef (qc_to i).1 (qc_to i).2.1 (qc_to i).2.2 ∈ lw_tbl := by decide +kernel
theorem cx_tN : ∀ i, i < 3 → qc_tl.getD i 0 < 2 ^ 31 := by decide
theorem cx_ds : ∀ w ∈ qx_ds, w ∈ lw_tbl ∧ w.onTables = true := by decide +kernel
theorem cx_t {w : Cond} (i : Nat) (h : lw_tbl[i]? = some w) : w ∈ lw_tbl := List.mem_of_getElem? h
theorem cx_over {args : Array Value} {s : State} (h : (Cond.arrayOver (.array .int)).before args s = true) : ∃ (c : ClassId) (k : Class) (comp : ClassId), s.vm.findClass "[[I" = some c ∧ s.vm.classes[c]? = some k ∧ k.kind = .array comp (.array .int) := by
  unfold Cond.before Cond.holds at h
  simp only [Cond.value] at h
  rw [beq_iff_eq] at h
  obtain ⟨comp, hc, h⟩ := Option.bind_eq_some_iff.mp h
  obtain ⟨c, hi, h⟩ := Option.bind_eq_some_iff.mp h
  obtain ⟨k, hk, h⟩ := Option.map_eq_some_iff.mp h
  cases hkind : k.kind with
  | array component ty =>
    rw [hkind] at h
    simp at h
    exact ⟨c, k, component, h.2, hk, by rw [hkind, h.1]⟩
  | _ =>
    rw [hkind] at h
    simp at h
theorem lw_ctx {p : Program} {s : State} {m : MethodId} {meth : Method} {c : Code} {b L : Nat} {xs : Nat → Int32} (C : lw_At p s m meth c b L xs) : ∃ (D : va_G) (ca : Nat → ClassId) (ad0 : Nat → Nat), lw_C p s m meth c b L xs D ca ad0 := by
  obtain ⟨hx, hb, hr, hml, hown, hts9, hX, hbl, hlocks, hgv⟩ := id C
  have hts : ∀ w ∈ qc_GW, w.before #[Value.ref b] s = true := fun w hw => hts9 w (List.mem_filter.mp hw).1
  have hF := flat_of_before _ hgv
  have hA : ∀ a : Nat, a < s.heap.size → ¬ (fun q : Nat => s.heap.size ≤ q) a := fun a h => Nat.not_le.mpr h
  obtain ⟨-, hc0, hin0, -, -, -⟩ := qc_cl0
  obtain ⟨c0, i0, hK0⟩ := u_known hts hin0 (hts _ ww_295)
  obtain ⟨-, hc1, hin1, -, -, -⟩ := qc_cl1
  obtain ⟨c1, i1, hK1⟩ := u_known hts hin1 (hts _ ww_302)
  obtain ⟨-, hc2, hin2, -, -, -⟩ := qc_cl2
  obtain ⟨c2, i2, hK2⟩ := u_known hts hin2 (hts _ ww_245)
  obtain ⟨-, hc3, hin3, -, -, -⟩ := qc_cl3
  obtain ⟨c3, i3, hK3⟩ := u_known hts hin3 (hts _ ww_377)
  obtain ⟨-, hc4, hin4, -, -, -⟩ := qc_cl4
  obtain ⟨c4, i4, hK4⟩ := u_known hts hin4 (hts _ ww_142)
  obtain ⟨-, hc5, hin5, -, -, -⟩ := qc_cl5
  obtain ⟨c5, i5, hK5⟩ := u_known hts hin5 (hts _ ww_278)
  obtain ⟨-, hc6, hin6, -, -, -⟩ := qc_cl6
  obtain ⟨c6, i6, hK6⟩ := u_known hts hin6 (hts _ ww_134)
  obtain ⟨-, hc7, hin7, -, -, -⟩ := qc_cl7
  obtain ⟨c7, i7, hK7⟩ := u_known hts hin7 (hts _ ww_1059)
  obtain ⟨a8, k8, m8, f8, g8, e8⟩ := Cond.arrayClass_spec (hts _ ww_243)
  obtain ⟨a9, k9, m9, f9, g9, e9⟩ := Cond.arrayClass_spec (hts _ ww_1231)
  obtain ⟨m10, a10, k10, f10, -, g10, e10, n10⟩ := Cond.arrayOver_spec (n := "QuietChannels$Image") (hts9 _ (cx_t 301 (by decide +kernel)))
  have hov := hts9 _ (cx_t (w := Cond.arrayOver (.array .int)) 251 (by decide +kernel))
  obtain ⟨a11, k11, m11, f11, g11, e11⟩ := cx_over hov
  have h0 : ∀ i : Nat, ∃ t : Nat, i < 6 → va_Z "QuietChannels" (qc_sn i) "[I" (.ref t) (fun q : Nat => s.heap.size ≤ q) s s.heap ∧ va_T .int t 6 (fun j => .int ((qc_sv i).getD j 0)) (fun q : Nat => s.heap.size ≤ q) s s.heap := fun i => by
    by_cases hi : i < 6
    · obtain ⟨t, ht, hT⟩ := va_Tof (f := fun j => .int ((qc_sv i).getD j 0)) (A := fun q : Nat => s.heap.size ≤ q) (by decide) (hF _ (cx_ar i hi)) (va_eqt (hF _ (cx_le i hi))) (fun j hj => va_eqt (hF _ (cx_el i hi j hj))) hA
      exact ⟨t, fun _ => ⟨va_Zof (hts9 _ (cx_ls i hi)) (hts _ ww_112) ht hA, hT⟩⟩
    · exact ⟨0, fun h => absurd h hi⟩
  obtain ⟨sa, hsa⟩ := Classical.axiomOfChoice h0
  have h1 : ∀ i : Nat, ∃ q : Nat × Nat, i < 3 → (va_O "java/lang/String" q.1 (fun q : Nat => s.heap.size ≤ q) s s.heap ∧ va_OF "java/lang/String" "coder" "B" (.int 0) q.1 (fun q : Nat => s.heap.size ≤ q) s s.heap ∧ va_OF "java/lang/String" "value" "[B" (.ref q.2) q.1 (fun q : Nat => s.heap.size ≤ q) s s.heap ∧ va_T .byte q.2 (qc_tl.getD i 0) (fun j => .int ((qc_tb.getD i []).getD j 0)) (fun q : Nat => s.heap.size ≤ q) s s.heap) ∧ vk_R (qc_to i).1 (qc_to i).2.1 (qc_to i).2.2 q.1 s := fun i => by
    by_cases hi : i < 3
    · obtain ⟨t1, t2, t3, t4⟩ := cx_tx i hi
      obtain ⟨a, c9, cA, kA, q1, q2, q3, q4, q5, q6, -⟩ := Cond.exactly_spec (args := #[Value.ref b]) (first := s) (o := none) (s := s) (idx := []) (t := cx_tm i) (cls := "java/lang/String") (hF _ t1)
      obtain ⟨t, ht, hT⟩ := va_Tof (f := fun j => .int ((qc_tb.getD i []).getD j 0)) (A := fun q : Nat => s.heap.size ≤ q) (cx_tN i hi) (hF _ t3) (va_eqt (hF _ t4)) (fun j hj => va_eqt (hF _ (cx_tb i hi j hj))) hA
      exact ⟨(a, t), fun _ => ⟨⟨va_Oof (hF _ t1) q1 hA, vk_OFof q1 (va_eqt (hF _ t2)) hA, vk_OFof q1 ht hA, hT⟩, vk_R.of (hts9 _ (cx_sr i hi)) q1⟩⟩
    · exact ⟨(0, 0), fun h => absurd h hi⟩
  obtain ⟨tx, htx⟩ := Classical.axiomOfChoice h1
  have hz := va_Zqof (A := fun q : Nat => s.heap.size ≤ q) (hts9 _ (cx_t 1289 (by decide +kernel))) (hts _ ww_122) (hF (Cond.isRef (.static "jdk/internal/util/Preconditions" "SIOOBE_FORMATTER" "Ljava/util/function/BiFunction;")) (by decide +kernel)) hA
  obtain ⟨fz, hfz⟩ : ∃ fz : Nat, va_Z "jdk/internal/util/Preconditions" "SIOOBE_FORMATTER" "Ljava/util/function/BiFunction;" .null (fun q : Nat => s.heap.size ≤ q) s s.heap ∨ va_Z "jdk/internal/util/Preconditions" "SIOOBE_FORMATTER" "Ljava/util/function/BiFunction;" (.ref fz) (fun q : Nat => s.heap.size ≤ q) s s.heap := by
    rcases hz with h | ⟨t, h⟩
    · exact ⟨0, Or.inl h⟩
    · exact ⟨t, Or.inr h⟩
  refine ⟨(fun k => [c0, c1, c2, c3, c4, c5, c6, c7].getD k c0, fun k => [i0, i1, i2, i3, i4, i5, i6, i7].getD k i0), fun k => [a8, a9, a10, a11].getD (k - 8) a8, fun u => if u < qc_RO + 10 then sa (u - qc_RO) else if u < qc_RO + 20 then (tx (u - (qc_RO + 10))).1 else if u < qc_RO + 29 then (tx (u - (qc_RO + 20))).2 else fz, C, ⟨⟨fun k q hq => ?_, fun k q hq => ?_⟩, fun q hq => va_Nw.of rfl (hts9 _ (cx_fn q hq)), fun q hq => va_Nw.of rfl (hts9 _ (cx_mn q hq)), fun i hi => ?_, fun _ h => h, va_AO.of (hts9 _ (cx_t 301 (by decide +kernel))), ⟨fun i hi => ?_, va_Zof (hts9 _ (cx_t 1273 (by decide +kernel))) (hts _ ww_120) (va_eqi (hF _ (by decide +kernel))) hA, ?_⟩, hov⟩, ⟨vx_Zqof (hts9 _ (cx_t 1001 (by decide +kernel))) (hts _ ww_127) (hF _ (by decide +kernel)) hA, vx_Zqof (hts9 _ (cx_t 1003 (by decide +kernel))) (hts _ ww_127) (hF _ (by decide +kernel)) hA, va_Nw.of rfl (hts9 _ (cx_t 976 (by decide +kernel))), va_Nw.of rfl (hts9 _ (cx_t 1044 (by decide +kernel))), va_Nc.of (hF _ (by decide +kernel)), fun w hw => va_Nw.of (cx_ds w hw).2 (hts9 _ (cx_ds w hw).1)⟩⟩
  · match k, hq with
    | 0, hq => cases hc0.symm.trans hq; exact hK0
    | 1, hq => cases hc1.symm.trans hq; exact hK1
    | 2, hq => cases hc2.symm.trans hq; exact hK2
    | 3, hq => cases hc3.symm.trans hq; exact hK3
    | 4, hq => cases hc4.symm.trans hq; exact hK4
    | 5, hq => cases hc5.symm.trans hq; exact hK5
    | 6, hq => cases hc6.symm.trans hq; exact hK6
    | 7, hq => cases hc7.symm.trans hq; exact hK7
    | k + 8, hq => simp [vwCl] at hq
  · match k, hq with
    | 0, hq => cases hq; exact ⟨fun n z => ⟨fun k h => (by cases h), k8, g8, m8, e8⟩, f8⟩
    | 1, hq => cases hq; exact ⟨fun n z => ⟨fun k h => (by cases h), k9, g9, m9, e9⟩, f9⟩
    | 2, hq => cases hq; exact ⟨fun n z => ⟨fun k h => (by cases h), k10, g10, m10, e10⟩, k10, m10, g10, e10, f10, n10⟩
    | 3, hq => cases hq; exact ⟨fun n z => ⟨fun k h => (by cases h), k11, g11, m11, e11⟩, f11⟩
    | k + 4, hq => simp at hq
  · dsimp only
    rw [if_pos (by omega), Nat.add_sub_cancel_left]
    exact hsa i hi
  · unfold qc_Tx
    dsimp only
    rw [if_neg (by omega), if_pos (by omega), Nat.add_sub_cancel_left, if_neg (by omega), if_neg (by omega), if_pos (by omega), Nat.add_sub_cancel_left]
    exact htx i hi
  · dsimp only
    rw [if_neg (by omega), if_neg (by omega), if_neg (by omega)]
    exact hfz
