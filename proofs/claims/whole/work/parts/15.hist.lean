/-! History(): twenty images -/
def rH (R : Nat → Nat → Option Nat) : Nat → Nat → Nat → Option Nat
  | 0 => qc_u2 R 35 0 (some 36)
  | k + 1 => qc_u2 (rIm (rH R k) (37 + 4 * k)) 36 k (some (37 + 4 * k))
def jH (J : Nat → Nat → Int64) : Nat → Nat → Nat → Int64
  | 0 => J
  | k + 1 => qc_u2 (jH J k) (37 + 4 * k) 3 0
theorem jH_at {J : Nat → Nat → Int64} {t : Nat} : ∀ k, 37 + 4 * k ≤ t → jH J k t = J t
  | 0, _ => rfl
  | k + 1, h => by
    show qc_u (jH J k) (37 + 4 * k) _ t = J t
    rw [qc_u_n _ _ (by omega)]
    exact jH_at k (by omega)
theorem rH_at {R : Nat → Nat → Option Nat} {t : Nat} : ∀ k, 37 + 4 * k ≤ t → rH R k t = R t
  | 0, h => by
    show qc_u R 35 _ t = R t
    rw [qc_u_n _ _ (by omega)]
  | k + 1, h => by
    show qc_u (rIm (rH R k) (37 + 4 * k)) 36 _ t = R t
    rw [qc_u_n _ _ (by omega)]
    unfold rIm qc_u2
    rw [qc_u_n _ _ (by omega), qc_u_n _ _ (by omega), qc_u_n _ _ (by omega)]
    exact rH_at k (by omega)
theorem wf_Im {R : Nat → Nat → Option Nat} {q n : Nat} (h : qc_wf R (q + 1)) (hn : q + 4 ≤ n) : qc_wf (rIm R q) n :=
  (((h.up (show q + 1 ≤ n by omega)).set (by omega)).set (by omega)).set (by omega)
theorem wf_H {R : Nat → Nat → Option Nat} (h : qc_wf R 36) : ∀ k, qc_wf (rH R k) (37 + 4 * k)
  | 0 => (h.up (by decide)).set (by decide)
  | k + 1 => by
    have := wf_H h k
    exact (wf_Im (this.up (by omega)) (by omega)).set (by omega)
theorem qc_imz : ∀ k, k < 20 → ∀ i, i < 3 → kX (37 + 4 * k + 1 + i) = 8 ∧ nX (37 + 4 * k + 1 + i) = 6 := fun k hk i hi => ⟨((qc_imd k hk).2 i hi).1, ((qc_imd k hk).2 i hi).2.1⟩
theorem qm_X1_init : qc_mw yX1_init cX1_init 1 none 0 := ⟨ww_305, by decide, by decide, by decide +kernel⟩
theorem nI20 : ∀ k, k < 20 → ¬ (20 : Int32) ≤ nI k ∧ (nI k).toNatClampNeg = k ∧ qc_in (nI k) 20 ∧ nI k + Int32.ofInt 1 = nI (k + 1) := by decide +kernel
theorem qc_tkl35 {m : Nat} {v : Int32} (h : 36 < m) : qc_tkl m (m + 1) [some (.ref 35), some (.int v)] = true := by
  have h1 : ¬ m ≤ 35 := by omega
  simp [qc_tkl, qc_tk, h1]
theorem qc_tks36 {m : Nat} {v : Int32} (h : 36 < m) : qc_tks m (m + 1) [.int v, .ref 36] = true := by
  have h1 : ¬ m ≤ 36 := by omega
  simp [qc_tks, qc_tk, h1]
theorem qc_tkl35g {m b : Nat} {v : Int32} (h : 36 < m) : qc_tkl m b [some (.ref 35), some (.int v)] = true := by
  have h1 : ¬ m ≤ 35 := by omega
  simp [qc_tkl, qc_tk, h1]
theorem qc_tks36g {m b q : Nat} {v : Int32} (h : 36 < m) (hq : q < m) : qc_tks m b [.ref q, .int v, .ref 36] = true := by
  have h1 : ¬ m ≤ 36 := by omega
  have h2 : ¬ m ≤ q := by omega
  simp [qc_tks, qc_tk, h1, h2]
set_option maxRecDepth 100000 in
set_option maxHeartbeats 4000000 in
theorem c_X0_init {I : Nat → Nat → Int32} {J : Nat → Nat → Int64} {R : Nat → Nat → Option Nat} (hI : ∀ t, 36 ≤ t → I t = fun _ => 0) (hJ : ∀ t, 36 ≤ t → J t = fun _ => 0) (hR : ∀ t, 36 ≤ t → R t = fun _ => none) (w0 : qc_wf R 36) : ∀ l, qc_M l yX0_init cX0_init 2 none 2 40 81 460 [.ref 35] (I, J, (R, kX, nX, 36)) none (qc_u2 I 35 1 0, jH J 20, (rH R 20, kX, nX, 117)) := by
  intro l
  refine qc_ent2 (by decide) (Nat.le_of_ble_eq_true rfl) ?_
  intro F hn0 cx hz
  have hn0 : F.2.2.2.2.2.2.2.2.2.2.2.2.2.2.1 ≤ 36 := hn0
  have cx : qc_X F cX0_init RX0 "<init>" 2 81 460 40 := cx
  generalize hI1 : qc_u2 I 35 1 0 = I1 at hz
  have hI2 : ∀ t, 36 ≤ t → I1 t = fun _ => 0 := fun t ht => by
    rw [← hI1]
    show qc_u I 35 _ t = _
    rw [qc_u_n _ _ (by omega)]
    exact hI t ht
  have L20 : ∀ (d k : Nat), k + d = 20 → qc_J F (1 + 4 * k) (20 + 22 * k) 20 [some (.ref 35), some (.int (nI k))] [] (I1, jH J k, (rH R k, kX, nX, 37 + 4 * k)) := by
    intro d
    induction d with
    | zero =>
      intro k hk
      have hk : k = 20 := by omega
      subst hk
      refine qj_iload_n cx dX0_init_20 rfl rfl ?_
      refine qj_bipush (v := (20 : Int32)) cx dX0_init_21 (by decide) ?_
      refine qj_icmp_ge (tgt := 45) cx dX0_init_23 (by decide) (fun c => ?_) (fun c => absurd (by decide) c)
      exact qj_vret (st := []) cx hz dX0_init_45 (by decide) (by decide)
    | succ d ih =>
      intro k hk
      have hk20 : k < 20 := by omega
      obtain ⟨e1, e2, e3, e4⟩ := nI20 k hk20
      obtain ⟨g1, g2⟩ := qc_imd k hk20
      have wk := wf_H w0 k
      refine qj_iload_n cx dX0_init_20 rfl rfl ?_
      refine qj_bipush (v := (20 : Int32)) cx dX0_init_21 (by decide) ?_
      refine qj_icmp_ge (tgt := 45) cx dX0_init_23 (by decide) (fun c => absurd c e1) (fun c => ?_)
      refine qj_aload_n cx dX0_init_26 rfl rfl ?_
      have hr : rH R k 35 0 = some 36 := by
        have : ∀ k, rH R k 35 = qc_u (R 35) 0 (some 36) := by
          intro k
          induction k with
          | zero => exact qc_u_s R 35 _
          | succ k ih =>
            have e : rH R (k + 1) 35 = rIm (rH R k) (37 + 4 * k) 35 := rfl
            rw [e]
            unfold rIm qc_u2
            rw [qc_u_n _ _ (by omega), qc_u_n _ _ (by omega), qc_u_n _ _ (by omega)]
            exact ih
        rw [this, qc_u_s]
      refine qj_getR (j := 0) (t1 := 36) (h := (I1, jH J k, (rH R k, kX, nX, 37 + 4 * k))) cx dX0_init_27 qc_cl0 rfl (show 35 < 37 + 4 * k by omega) rfl ww_320 hr ?_
      refine qj_iload_n cx dX0_init_30 rfl rfl ?_
      refine qa_new (m := 37 + 4 * k) cx dX0_init_31 qc_cl1 qc_dv1 ww_300 ww_302 ww_117 g1 (hI2 _ (by omega)) (by rw [jH_at k (by omega)]; exact hJ _ (by omega)) (by rw [rH_at k (by omega)]; exact hR _ (by omega)) (by omega) wk (qc_tkl35 (by omega)) (qc_tks36 (by omega)) (by constructor <;> omega) ?_
      refine qj_dup cx dX0_init_34 rfl ?_
      refine qj_callIN (host := "QuietChannels") (As := []) (st := [.ref (37 + 4 * k), .int (nI k), .ref 36]) (t := 37 + 4 * k) (h' := (I1, qc_u2 (jH J k) (37 + 4 * k) 3 0, (rIm (rH R k) (37 + 4 * k), kX, nX, 37 + 4 * k + 1 + 1 + 1 + 1))) cx dX0_init_35 (c_X1_init g1 (qc_imz k hk20) (fun i hi => hI2 _ (by omega)) (wk.up (by omega))) ⟨List.mem_of_getElem? (i := 3) rfl, ww_304, ww_117⟩ qm_X1_init rfl rfl (by decide) (by constructor <;> omega) rfl (Nat.le_of_ble_eq_true rfl) (show 37 + 4 * k + 1 ≤ qc_RO from Nat.le_trans (m := 200) (by omega) (by decide)) (show _ ≤ 37 + 4 * k + 1 by omega) (show 37 + 4 * k + 1 ≤ 37 + 4 * k + 1 + 1 + 1 + 1 by omega) (qc_tkl35g (m := 37 + 4 * k + 1) (by omega)) (qc_tks36g (m := 37 + 4 * k + 1) (by omega) (by omega)) ?_
      refine qa_aast (i := nI k) (j := k) (v := 37 + 4 * k) (t := 36) cx dX0_init_38 rfl (by omega) rfl e3 e2 g1 (by omega) ?_
      refine qj_iinc (v := nI (k + 1)) (ls1 := [some (.ref 35), some (.int (nI (k + 1)))]) cx dX0_init_39 rfl e4 rfl rfl ?_
      refine qj_goto (tgt := 20) cx dX0_init_42 (by decide) ?_
      have key := ih (k + 1) (by omega)
      have c1 : 1 + 4 * (k + 1) = 1 + 4 * k + 1 + 3 := by omega
      have c2 : 20 + 22 * (k + 1) = 20 + 22 * k + 4 + 18 := by omega
      have c3 : 37 + 4 * (k + 1) = 37 + 4 * k + 1 + 1 + 1 + 1 := by omega
      rw [c1, c2, c3] at key
      exact key
  show qc_J F 0 0 0 [some (.ref 35), none] [] (I, J, (R, kX, nX, 36))
  refine qj_aload_n cx dX0_init_0 rfl rfl ?_
  refine qa_obj cx dX0_init_1 ww_299 ww_139 ww_140 (by decide) (Nat.le_of_ble_eq_true rfl) ?_
  refine qj_aload_n cx dX0_init_4 rfl rfl ?_
  refine qj_bipush (v := (20 : Int32)) cx dX0_init_5 (by decide) ?_
  refine qa_newq (len := 20) (m := 36) cx dX0_init_7 ww_300 ⟨by decide, rfl⟩ (by decide) rfl rfl (hR 36 (by decide)) hn0 w0 rfl rfl (by decide) ?_
  refine qj_putRF (j := 0) (h := (I, J, (R, kX, nX, 37))) cx dX0_init_10 qc_cl0 rfl (Nat.le_of_ble_eq_true rfl) rfl ww_320 (fun _ => rfl) (fun _ => rfl) rfl rfl rfl ?_
  show qc_J F 1 20 13 [some (.ref 35), none] [] (I, J, (rH R 0, kX, nX, 37))
  refine qj_aload_n cx dX0_init_13 rfl rfl ?_
  refine qj_iconst (v := (0 : Int32)) cx dX0_init_14 (by decide) ?_
  refine qj_putI (j := 1) (h := (I, J, (rH R 0, kX, nX, 37))) cx dX0_init_15 qc_cl0 rfl (Nat.le_of_ble_eq_true rfl) rfl ww_321 rfl rfl rfl ?_
  refine qj_iconst (v := (0 : Int32)) cx dX0_init_18 (by decide) ?_
  refine qj_istore_n (ls1 := [some (.ref 35), some (.int (0 : Int32))]) cx dX0_init_19 rfl rfl rfl rfl ?_
  have key := L20 20 0 rfl
  rw [← hI1] at key
  exact key
