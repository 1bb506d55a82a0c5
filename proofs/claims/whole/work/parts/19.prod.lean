/-! new int[8][700], told by tokens; Products and QuietChannels constructors -/
def rMn (R : Nat → Nat → Option Nat) (m : Nat) : Nat → Nat → Option Nat := fun t j => if t = m then (if j < 8 then some (m + 1 + j) else none) else R t j
def adMn (ad : Nat → Nat) (m q : Nat) : Nat → Nat := fun u => if m ≤ u ∧ u < m + 9 then q + (u - m) else ad u
theorem wf_Mn {R : Nat → Nat → Option Nat} {m : Nat} (w0 : qc_wf R m) : qc_wf (rMn R m) (m + 9) := by
  intro t j v e
  unfold rMn at e
  by_cases ht : t = m
  · rw [if_pos ht] at e
    by_cases hj : j < 8
    · rw [if_pos hj] at e; cases e; omega
    · rw [if_neg hj] at e; cases e
  · rw [if_neg ht] at e
    have := w0 t j v e
    omega
theorem qa_mna {F : qc_F} {cc : ByteArray} {own nm : String} {rF rC rS rL cells slots pc idx m : Nat} {ls : List (Option Value)} {st : List Value} {I : Nat → Nat → Int32} {J : Nat → Nat → Int64} {R : Nat → Nat → Option Nat} {K N : Nat → Nat} (cx : qc_X F cc own nm rF rC rS rL) (hd : decode cc pc = .ok (.multianewarray idx 2, 4)) (w1 : Cond.classLink own idx "[[I" ∈ qc_GW) (w2 : Cond.arrayClass .int ∈ qc_GW) (hk : K m = 11) (hN : N m = 8) (hrow : ∀ j, j < 8 → K (m + 1 + j) = 8 ∧ N (m + 1 + j) = 700 ∧ I (m + 1 + j) = fun _ => 0) (hn0 : F.2.2.2.2.2.2.2.2.2.2.2.2.2.2.1 ≤ m) (hwf : qc_wf R m) (hls : qc_tkl m (m + 9) ls = true) (hst : qc_tks m (m + 9) st = true) (hce : cells + 9 ≤ rC ∧ slots + 5608 ≤ rS)
    (k : qc_J F (cells + 9) (slots + 5608) (pc + 4) ls (.ref m :: st) (I, J, (rMn R m, K, N, m + 9))) : qc_J F cells slots pc ls (.int 700 :: .int 8 :: st) (I, J, (R, K, N, m)) := by
  obtain ⟨p, l, e, R0, s, m0, args, below, meth, c, nL, D, ca, A, n0, ad0, Q⟩ := F
  obtain ⟨hx, hb, hml, hown, hts, hlocks, hG, hroom, hnm⟩ := cx
  intro ad H locs la hw hS ha hl
  have hover : (Cond.arrayOver (.array .int)).before args s = true := hG.2.2.2.2.2.2.2
  have hA : ∀ q : Nat, s.heap.size ≤ q → A q := fun q hq => hG.2.2.2.2.1 q hq
  refine qa_mnaW hx hb hown (hts _ w1) hover (hts _ w2) (by omega) (by omega) hd (fun cA comp H1 fA fC hz hold hout hin => ?_)
  have hcA : cA = ca 11 := by
    have h2 : s.vm.findClass "[[I" = some (ca 11) := (hG.1.2 3 (ca 11, .array .int) rfl).2
    exact Option.some.inj (fA.symm.trans h2)
  have hcC : comp = ca 8 := by
    have h2 : s.vm.findClass "[I" = some (ca 8) := (hG.1.2 0 (ca 8, .int) rfl).2
    exact Option.some.inj (fC.symm.trans h2)
  subst hcA
  subst hcC
  have hag : ∀ u, ¬ (m ≤ u ∧ u < m + 9) → adMn ad m H.size u = ad u := fun u hu => if_neg hu
  have hnew : ∀ u, m ≤ u → u < m + 9 → adMn ad m H.size u = H.size + (u - m) := fun u h1 h2 => if_pos ⟨h1, h2⟩
  have key : ∀ (i : Nat) (q : Nat × va_E), (qc_W ca (adMn ad m H.size) (I, J, (rMn R m, K, N, m + 9)))[i]? = some q → i < m + 9 ∧ q = (adMn ad m H.size i, qc_E ca (adMn ad m H.size) (I, J, (rMn R m, K, N, m + 9)) i) := by
    intro i q hq
    by_cases hi : i < m + 9
    · rw [qc_W_at (h := (I, J, (rMn R m, K, N, m + 9))) hi] at hq
      exact ⟨hi, (Option.some.inj hq).symm⟩
    · rw [qc_W_none (h := (I, J, (rMn R m, K, N, m + 9))) hi] at hq
      cases hq
  have hlt : ∀ i, i < m → ad i < H.size := fun i hi => (hw.1 i _ (qc_W_at (h := (I, J, (R, K, N, m))) hi)).lt
  have hP : va_P D vwCl (qc_W ca (adMn ad m H.size) (I, J, (rMn R m, K, N, m + 9))) H1 := by
    intro i q hq
    obtain ⟨hi, rfl⟩ := key i q hq
    by_cases h1 : i < m
    · have e1 : qc_E ca (adMn ad m H.size) (I, J, (rMn R m, K, N, m + 9)) i = qc_E ca ad (I, J, (R, K, N, m)) i := by
        rw [qc_E_cong (h := (I, J, (R, K, N, m))) (h' := (I, J, (rMn R m, K, N, m + 9))) rfl rfl (show rMn R m i = R i from funext fun j => if_neg (by omega)) rfl rfl]
        exact qc_E_ad (fun j v e => hag v (by have := hwf _ _ _ e; omega))
      rw [e1, hag i (by omega)]
      exact (hw.1 i _ (qc_W_at (h := (I, J, (R, K, N, m))) h1)).kept (hold _ (hlt i h1))
    · by_cases h2 : i = m
      · subst h2
        rw [qc_E_ref (h := (I, J, (rMn R i, K, N, i + 9))) (k := 11) hk (Or.inr rfl), hnew i (by omega) (by omega), Nat.sub_self, Nat.add_zero]
        show H1[H.size]? = some (arrV (ca 11) (N i) (fun j => va_rf ((rMn R i i j).map (adMn ad i H.size))))
        rw [hN, hout]
        refine congrArg some (arrV_congr (fun j hj => ?_))
        have e2 : rMn R i i j = some (i + 1 + j) := by
          unfold rMn
          rw [if_pos rfl, if_pos hj]
        rw [e2]
        show Value.ref (H.size + 1 + j) = va_rf (some (adMn ad i H.size (i + 1 + j)))
        rw [hnew _ (by omega) (by omega), show i + 1 + j - i = 1 + j by omega, ← Nat.add_assoc]
        rfl
      · obtain ⟨j, rfl⟩ : ∃ j, i = m + 1 + j := ⟨i - (m + 1), by omega⟩
        have hj : j < 8 := by omega
        rw [qc_E_arr (h := (I, J, (rMn R m, K, N, m + 9))) (k := 8) (hrow j hj).1 (Or.inl rfl), hnew _ (by omega) (by omega), show m + 1 + j - m = 1 + j by omega, ← Nat.add_assoc]
        show H1[H.size + 1 + j]? = some (arrV (ca 8) (N (m + 1 + j)) (fun i => .int (I (m + 1 + j) i)))
        rw [(hrow j hj).2.1, (hrow j hj).2.2]
        exact hin j hj
  have hD : va_D A (qc_W ca (adMn ad m H.size) (I, J, (rMn R m, K, N, m + 9))) := by
    refine ⟨fun i j x y hi hj hxy => ?_, fun i x hx => ?_⟩
    · obtain ⟨hi9, rfl⟩ := key i x hi
      obtain ⟨hj9, rfl⟩ := key j y hj
      have hxy : adMn ad m H.size i = adMn ad m H.size j := hxy
      by_cases h1 : i < m <;> by_cases h2 : j < m
      · rw [hag i (by omega), hag j (by omega)] at hxy
        exact hw.2.1 i j _ _ (qc_W_at (h := (I, J, (R, K, N, m))) h1) (qc_W_at (h := (I, J, (R, K, N, m))) h2) hxy
      · rw [hag i (by omega), hnew j (by omega) hj9] at hxy
        have := hlt i h1
        omega
      · rw [hnew i (by omega) hi9, hag j (by omega)] at hxy
        have := hlt j h2
        omega
      · rw [hnew i (by omega) hi9, hnew j (by omega) hj9] at hxy
        omega
    · obtain ⟨hi, rfl⟩ := key i x hx
      show A (adMn ad m H.size i)
      by_cases h1 : i < m
      · rw [hag i (by omega)]
        exact hw.2.2 i _ (qc_W_at (h := (I, J, (R, K, N, m))) h1)
      · rw [hnew i (by omega) hi]
        exact hA _ (by have := hS.1; omega)
  have hS1 : va_S A s.heap H1 locs := ⟨by have := hS.1; omega, fun x h1 h2 => (hold x (Nat.lt_of_lt_of_le h1 hS.1)).trans (hS.2.1 x h1 h2), hS.2.2⟩
  have k9 := k (adMn ad m H.size) H1 locs la ⟨hP, hD⟩ hS1 (fun u hu => by
    have hu9 : ¬ (n0 ≤ u ∧ u < m + 9) := hu
    have hn0 : n0 ≤ m := hn0
    rw [hag u (fun z => hu9 ⟨by omega, z.2⟩)]
    exact ha u (fun z => hu9 ⟨z.1, by have : u < m := z.2; omega⟩)) (hl.mono (fun i v hv => qc_tkl_eq hls hag i v hv))
  have e1 : (Value.ref m :: st).map (qc_rv (adMn ad m H.size)) = .ref H.size :: st.map (qc_rv ad) := by
    rw [List.map_cons, qc_tks_eq hst hag]
    show Value.ref (adMn ad m H.size m) :: _ = _
    rw [hnew m (by omega) (by omega), Nat.sub_self, Nat.add_zero]
  rw [e1] at k9
  exact k9
