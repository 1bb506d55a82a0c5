/-! THE SEARCH on both sides -/
theorem x_168 {I : Nat → Nat → Int32} {J : Nat → Nat → Int64} {p m : Int} (h : I 33 1 = zI m) (p1 : -1 ≤ p) (p2 : p ≤ 6) (m1 : 0 ≤ m) (m2 : m ≤ 6) : P_X5_seek_168 12 I J (zI p) = some (zI (if p = m then 0 else -2), I, J) := by
  unfold P_X5_seek_168
  simp only [zI_add, zI_sub, zI_mul, zI_neg, zL]
  rw [h]
  by_cases c : p = m
  · rw [if_pos (by rw [c]), if_pos c]; rfl
  · rw [if_neg (by rw [zI_eq] <;> omega), if_neg c]; rfl
/-- where the reference stands -/
def uM (K : List Nat) (p : Int) : Int := if p < 0 then -1 else ((K.getD p.toNat 6 : Nat) : Int)
theorem seek_loop {V : sV} {s : Nat} (hs : s < 64) (hs2 : s < 2 ^ (v_us V).val) (h6 : (v_us V).val ≤ 6) : ∀ (f F t L : Nat) (p : Int) (g : Nat → Fin 61) (I : Nat → Nat → Int32) (J : Nat → Nat → Int64) (M : Nat → Nat → Int32), 1203 ≤ f + t → f ≤ F → -1 ≤ p → p ≤ (cf (tb s) (v_us V).val 0).length → (t : Int) + p ≤ 2 * (L : Int) → L ≤ 600 → SX I J 12 (v_chf V g) → MX M (v_chf V g) → WK I (cf (tb s) (v_us V).val 0) → I 33 2 = zI (L : Nat) → M 0 42 = zI (L : Nat) → (∀ i (h : i < (cf (tb s) (v_us V).val 0).length), p < (i : Int) → (g ((cf (tb s) (v_us V).val 0)[i])).val = 0) → (∀ u, u < (v_us V).val → tb s u = true → (g u).val = 0 ∨ (v_lo V u).val ≤ (g u).val) → (∀ u, u < (v_us V).val → tb s u = false → g u = v_ch V u) → (∀ i (h : i < (cf (tb s) (v_us V).val 0).length), (i : Int) < p → (v_lo V ((cf (tb s) (v_us V).val 0)[i])).val ≤ (v_hi V ((cf (tb s) (v_us V).val 0)[i])).val) → ∃ (res x : Int) (I' : Nat → Nat → Int32) (J' : Nat → Nat → Int64) (M' : Nat → Nat → Int32) (g' : Nat → Fin 61) (L' : Nat), P_X5_seek_28 12 f I J (zI s) (zI p) (zI (t : Nat)) = some (zI res, I', J') ∧ P_X7_searches_64 F M (zI s) (zI (uM (cf (tb s) (v_us V).val 0) p)) = some (zI x, M') ∧ SX I' J' 12 (v_chf V g') ∧ MX M' (v_chf V g') ∧ (∀ u, u < (v_us V).val → tb s u = false → g' u = v_ch V u) ∧ ((res = 0 ∧ x = (L' : Int) ∧ I' 33 2 = zI (L' : Nat) ∧ L' ≤ 600 ∧ L ≤ L' ∧ ∀ u, u < (v_us V).val → tb s u = true → (v_lo V u).val ≤ (v_hi V u).val) ∨ (res = x ∧ (x = -2 ∨ x = -3) ∧ ∀ u, u < (v_us V).val → tb s u = true → (g' u).val = 0)) ∧ eX I I' ∧ eJ J J' ∧ eK M M' := by
  intro f
  induction f with
  | zero =>
    intro F t L p g I J M h1 h2 h3 h4 h5 hL
    omega
  | succ f ih =>
    intro F t L p g I J M h1 h2 h3 h4 h5 hL hS hM hW hIL hML inv1 inv2 inv3 inv4
    obtain ⟨F', rfl⟩ : ∃ F', F = F' + 1 := ⟨F - 1, by omega⟩
    have hm6 : (cf (tb s) (v_us V).val 0).length ≤ 6 := by
      rw [cf_len]
      have : sm (fun u => b1 (tb s u)) (v_us V).val 0 ≤ 1 * (v_us V).val := by
        refine sm_le _ 0 ?_
        intro i _ _
        unfold b1
        split <;> omega
      omega
    have ht : t < 1202 := by omega
    have kt : ¬ zI 1202 ≤ zI (t : Int) := by rw [zI_le] <;> omega
    by_cases cp : p < 0
    · -- nothing
      have ep : p = -1 := by omega
      subst ep
      have kp : zI (-1) < zI 0 := by decide
      refine ⟨-2, -2, I, J, M, g, L, ?_, ?_, hS, hM, inv3, Or.inr ⟨rfl, Or.inl rfl, ?_⟩, eX_r I, eJ_r J, eK_r M⟩
      · rw [P_X5_seek_28]
        simp only [zL]
        rw [if_neg kt, if_pos kp, x_168 hW.1 (by omega) (by omega) (by omega) (by omega), if_neg (by omega)]
      · have : uM (cf (tb s) (v_us V).val 0) (-1) = -1 := rfl
        rw [this, P_X7_searches_64]
        simp only [zI_add, zI_sub, zI_mul, zI_neg, zL, if_true]
        unfold P_X7_searches_127
        simp only [zI_add, zI_sub, zI_mul, zI_neg, zL, if_true]
        rfl
      · intro u hu htb
        have hmem := cf_in (f := tb s) (v_us V).val 0 u (by omega) (by omega) htb
        obtain ⟨i, hi, e⟩ := List.getElem_of_mem hmem
        have := inv1 i hi (by omega)
        rw [e] at this
        exact this
    · by_cases cm : p = (cf (tb s) (v_us V).val 0).length
      · -- found
        have kp : ¬ zI p < zI 0 := by rw [zI_lt] <;> omega
        have km : zI ((cf (tb s) (v_us V).val 0).length : Int) ≤ zI p := by rw [zI_le] <;> omega
        have hlh : ∀ u, u < (v_us V).val → tb s u = true → (v_lo V u).val ≤ (v_hi V u).val := by
          intro u hu htb
          have hmem := cf_in (f := tb s) (v_us V).val 0 u (by omega) (by omega) htb
          obtain ⟨i, hi, e⟩ := List.getElem_of_mem hmem
          have := inv4 i hi (by omega)
          rw [e] at this
          exact this
        refine ⟨0, (L : Int), I, J, M, g, L, ?_, ?_, hS, hM, inv3, Or.inl ⟨rfl, rfl, hIL, hL, Nat.le_refl _, hlh⟩, eX_r I, eJ_r J, eK_r M⟩
        · rw [P_X5_seek_28]
          simp only [zL]
          rw [if_neg kt, if_neg kp, hW.1, if_pos km, x_168 hW.1 (by omega) (by omega) (by omega) (by omega), if_pos cm]
        · have : uM (cf (tb s) (v_us V).val 0) p = 6 := by
            unfold uM
            rw [if_neg cp, cm, Int.toNat_natCast, List.getD_eq_getElem?_getD, List.getElem?_eq_none (by omega)]
            rfl
          have n1 : ¬ zI 6 = zI (-1) := by decide
          rw [this, P_X7_searches_64]
          simp only [zI_add, zI_sub, zI_mul, zI_neg, zL, if_neg n1]
          rw [if_pos (by decide)]
          unfold P_X7_searches_127
          simp only [zI_add, zI_sub, zI_mul, zI_neg, zL, if_neg n1]
          rw [hML]
          rfl
      · -- one of them
        obtain ⟨i, rfl⟩ : ∃ i : Nat, p = (i : Int) := ⟨p.toNat, by omega⟩
        have hi : i < (cf (tb s) (v_us V).val 0).length := by omega
        obtain ⟨u, hu⟩ : ∃ u, u = (cf (tb s) (v_us V).val 0)[i] := ⟨_, rfl⟩
        have hmem := cf_mem _ _ _ (List.getElem_mem hi)
        rw [← hu] at hmem
        have huL : u < (v_us V).val := by omega
        have hgd : (cf (tb s) (v_us V).val 0).getD i 6 = u := by
          rw [List.getD_eq_getElem?_getD, List.getElem?_eq_getElem hi, hu]
          rfl
        have huM : uM (cf (tb s) (v_us V).val 0) (i : Int) = (u : Int) := by
          unfold uM
          rw [if_neg cp, Int.toNat_natCast, hgd]
        have nx1 := nx_1 ⟨(v_us V).val, by omega⟩ ⟨s, hs⟩ ⟨i, by omega⟩ hs2 hi
        have nx2 := nx_2 ⟨(v_us V).val, by omega⟩ ⟨s, hs⟩ ⟨i, by omega⟩ hs2 hi
        dsimp only at nx1 nx2
        rw [hgd] at nx1 nx2
        have hl1 : 1 ≤ (v_lo V u).val := hM.2.2.2.2.2.2.2.2.2.2.2.2.2.2.2 u huL
        have hfr : fromS (v_chf V g) u = if (g u).val = 0 then (v_lo V u).val else (g u).val + 1 := rfl
        have hfr1 : 1 ≤ fromS (v_chf V g) u := by rw [hfr]; split <;> omega
        have hfb : fromS (v_chf V g) u ≤ 61 := by rw [hfr]; split <;> omega
        -- the class reads the same
        have x4 : I 17 u = zI (v_lo V u).val := hS.2.2.2.2.2.2.1 u (by omega)
        have x5 : I 18 u = zI (v_hi V u).val := hS.2.2.2.2.2.2.2.1 u (by omega)
        have x6 : I 19 u = zI (g u).val := hS.2.2.2.2.2.2.2.2.1 u (by omega)
        have xw : I 34 i = zI (u : Int) := by rw [hu]; exact hW.2 i hi
        have hnx : (if zI ((v_lo V u).val : Int) < zI ((g u).val : Int) + zI 1 then zI ((g u).val : Int) + zI 1 else zI ((v_lo V u).val : Int)) = zI (fromS (v_chf V g) u : Nat) := by
          rw [hfr, zI_add]
          by_cases c0 : (g u).val = 0
          · rw [if_pos c0, if_neg (by rw [zI_lt] <;> omega)]
          · rcases inv2 u huL hmem.2.2 with c1 | c1
            · exact absurd c1 c0
            · rw [if_neg c0, if_pos (by rw [zI_lt] <;> omega)]
              rfl
        have kp : ¬ zI (i : Int) < zI 0 := by rw [zI_lt] <;> omega
        have km : ¬ zI ((cf (tb s) (v_us V).val 0).length : Int) ≤ zI (i : Int) := by rw [zI_le] <;> omega
        have i6 : qc_in (zI (i : Int)) 6 := by simp (disch := omega) only [zI_add, zI_sub, zI_mul, zI_neg, zL, zI_le, zI_lt, zI_eq, zI_cl, zA0, zI_if, Int.toNat_natCast, zT_add, zT_mul, Int.reduceToNat, Nat.add_zero, Nat.zero_add, Int.add_zero, Int.zero_add, zc_a, zc_l, Option.bind_some, qc_let, qc_in, qc_bo, iteT, iteF, and_self, if_true, if_false, qG]; omega
        have r6 : (zI (i : Int)).toNatClampNeg = i := by rw [zI_cl (by omega) (by omega)]; omega
        have i8 : qc_in (zI (u : Int)) 8 := by simp (disch := omega) only [zI_add, zI_sub, zI_mul, zI_neg, zL, zI_le, zI_lt, zI_eq, zI_cl, zA0, zI_if, Int.toNat_natCast, zT_add, zT_mul, Int.reduceToNat, Nat.add_zero, Nat.zero_add, Int.add_zero, Int.zero_add, zc_a, zc_l, Option.bind_some, qc_let, qc_in, qc_bo, iteT, iteF, and_self, if_true, if_false, qG]; omega
        have r8 : (zI (u : Int)).toNatClampNeg = u := by rw [zI_cl (by omega) (by omega)]; omega
        have et : zI (t : Int) + zI 1 = zI ((t + 1 : Nat) : Int) := by rw [zI_add]; rfl
        have xhead : P_X5_seek_28 12 (f + 1) I J (zI s) (zI (i : Int)) (zI (t : Nat)) = if zI (fromS (v_chf V g) u : Nat) ≤ zI ((v_hi V u).val : Int) then (if zI (L : Nat) = zI 600 then (P_X5_untune I 12 (zI s)).bind fun q22 => some (zI (-3), q22, J) else (P_X2_allClean (qc_u2 (qc_u2 I 33 2 (zI ((L + 1 : Nat) : Int))) 19 u (zI (fromS (v_chf V g) u : Nat))) J 12).bind fun q17 => (if q17.1 = zI 0 then some (zI 0) else some (zI 1)).bind fun v19 => P_X5_seek_28 12 f q17.2.1 q17.2.2 (zI s) (zI (i : Int) + v19) (zI ((t + 1 : Nat) : Int))) else P_X5_seek_28 12 f (qc_u2 I 19 u (zI 0)) J (zI s) (zI ((i : Int) - 1)) (zI ((t + 1 : Nat) : Int)) := by
          have eL : zI (L : Int) + zI 1 = zI ((L + 1 : Nat) : Int) := by rw [zI_add]; rfl
          have ei : zI (i : Int) + -zI 1 = zI ((i : Int) - 1) := by rw [zI_neg, zI_add]; rfl
          have e3 : -zI 3 = zI (-3) := zI_neg 3
          rw [P_X5_seek_28]
          simp only [zL, Nat.reduceAdd, if_neg kt, if_neg kp, hW.1, if_neg km, if_pos i6, r6, qc_let, xw, if_pos i8, r8, x4, x5, x6, hnx, hIL, P_X5_seek_162, et, eL, ei, e3]
        by_cases cA : (v_hi V u).val < fromS (v_chf V g) u
        · -- back
          have hME := ms_end (F := F') hM (u := u) huL cA nx2
          have kA : ¬ zI (fromS (v_chf V g) u : Nat) ≤ zI ((v_hi V u).val : Int) := by rw [zI_le] <;> omega
          have hS1 := SX_setch hS u 0
          have hM1 := MX_ch hM (u := u) huL 0
          have hW1 : WK (qc_u2 I 19 u (zI 0)) (cf (tb s) (v_us V).val 0) := by
            unfold WK at *
            rw [u2_ne (by omega), u2_ne (by omega)]
            exact hW
          obtain ⟨res, x, I', J', M', g', L', k1, k2, k3, k4, k5, k6, k7, k8, k9⟩ := ih F' (t + 1) L ((i : Int) - 1) (qc_u g u 0) (qc_u2 I 19 u (zI 0)) J (qc_u2 M 13 u (zI 0)) (by omega) (by omega) (by omega) (by omega) (by omega) hL hS1 hM1 hW1 (by rw [u2_ne (by omega)]; exact hIL) (by rw [u2_ne (by omega)]; exact hML) (by
            intro k hk hik
            unfold qc_u
            by_cases e : (cf (tb s) (v_us V).val 0)[k] = u
            · rw [if_pos e]; rfl
            · rw [if_neg e]
              refine inv1 k hk ?_
              have : k ≠ i := by
                intro e2
                subst e2
                exact e hu.symm
              omega) (by
            intro v hv hvt
            unfold qc_u
            by_cases e : v = u
            · rw [if_pos e]; exact Or.inl rfl
            · rw [if_neg e]; exact inv2 v hv hvt) (by
            intro v hv hvt
            unfold qc_u
            have : v ≠ u := by
              intro e
              rw [e, hmem.2.2] at hvt
              exact absurd hvt (by decide)
            rw [if_neg this]
            exact inv3 v hv hvt) (fun k hk hki => inv4 k hk (by omega))
          have hu2 : uM (cf (tb s) (v_us V).val 0) ((i : Int) - 1) = (if i = 0 then (-1 : Int) else (((cf (tb s) (v_us V).val 0).getD (i - 1) 6 : Nat) : Int)) := by
            unfold uM
            by_cases e : i = 0
            · rw [if_pos (by omega), if_pos e]
            · rw [if_neg (by omega), if_neg e, show ((i : Int) - 1).toNat = i - 1 by omega]
          rw [hu2] at k2
          refine ⟨res, x, I', J', M', g', L', ?_, ?_, k3, k4, k5, k6, ?_, k8, eK_t (eK_s M (by omega) _) k9⟩
          · rw [xhead, if_neg kA]; exact k1
          · rw [huM, hME]; exact k2
          · exact eX_t (eX_m (fun t' ht' => u2_ne (by omega))) k7
        · have kA : zI (fromS (v_chf V g) u : Nat) ≤ zI ((v_hi V u).val : Int) := by rw [zI_le] <;> omega
          by_cases cL : L = 600
          · -- given up
            subst cL
            have hMF := ms_full (F := F') (s := zI s) hM (u := u) huL (by show fromS (v_chf V g) u ≤ (v_hi V u).val; omega) hML
            obtain ⟨M', c1, c2, c3, c4⟩ := m_clr hs hM
            obtain ⟨I', y1, y2, y3, y4, y5⟩ := x_unt (V := v_chf V g) hs h6 hS
            refine ⟨-3, -3, I', J, M', unf (v_chf V g) s (v_us V).val, 600, ?_, ?_, y2, c2, ?_, Or.inr ⟨rfl, Or.inr rfl, ?_⟩, ?_, eJ_r J, c3⟩
            · rw [xhead, if_pos kA, if_pos (show zI ((600 : Nat) : Int) = zI 600 from rfl), y1]; rfl
            · rw [huM, hMF, c1]; rfl
            · intro v hv hvt
              unfold unf
              rw [if_neg (fun z => by rw [hvt] at z; exact absurd z.2 (by decide))]
              exact inv3 v hv hvt
            · intro v hv hvt
              unfold unf
              rw [if_pos ⟨hv, hvt⟩]
              rfl
            · exact eX_m (fun t' ht' => y4 t' (by omega) (by omega) (by omega))
          · -- a look
            have hG : CG V (cf (tb s) (v_us V).val 0) := ⟨cf_sorted _ _, fun x hx => by have := cf_mem _ _ _ hx; omega, by omega⟩
            obtain ⟨M6, e1, e2, e3, e4⟩ := ms_look (s := zI s) hM (u := u) huL (by show fromS (v_chf V g) u ≤ (v_hi V u).val; omega) hML (by omega) nx1 hfr1
            have hfv : (f61 (fromS (v_chf V g) u)).val = fromS (v_chf V g) u := f61_v (by omega)
            have hSa : SX (qc_u2 I 33 2 (zI ((L + 1 : Nat) : Int))) J 12 (v_chf V g) := SX_e (fun t _ _ => u2_ne (by omega)) rfl hS
            have hSb := SX_setch hSa u (f61 (fromS (v_chf V g) u))
            rw [hfv] at hSb
            have hSc : SX (qc_u2 (qc_u2 I 33 2 (zI ((L + 1 : Nat) : Int))) 19 u (zI (fromS (v_chf V g) u : Nat))) J 12 (v_chf V (qc_u g u (f61 (fromS (v_chf V g) u)))) := hSb
            obtain ⟨r, r1, r2, r3, r4⟩ := x_clean (p := 12) (by omega) hSc
            have hS2 : SX r.2.1 r.2.2 12 (v_chf V (qc_u g u (f61 (fromS (v_chf V g) u)))) := SX_e (fun t _ _ => r3 t (by omega)) (r4 12 (by omega)) hSc
            have hW2 : WK r.2.1 (cf (tb s) (v_us V).val 0) := by
              unfold WK at *
              rw [r3 33 (by omega), r3 34 (by omega)]
              have q1 : qc_u2 (qc_u2 I 33 2 (zI ((L + 1 : Nat) : Int))) 19 u (zI (fromS (v_chf V g) u : Nat)) 33 1 = I 33 1 := by
                rw [u2_ne (by omega), qG, if_neg (by omega)]
              have q2 : qc_u2 (qc_u2 I 33 2 (zI ((L + 1 : Nat) : Int))) 19 u (zI (fromS (v_chf V g) u : Nat)) 34 = I 34 := by
                rw [u2_ne (by omega), u2_ne (by omega)]
              rw [q1, q2]
              exact hW
            have hL2 : r.2.1 33 2 = zI ((L + 1 : Nat) : Int) := by
              rw [r3 33 (by omega), u2_ne (by omega), qG, if_pos ⟨rfl, rfl⟩]
            have eI : eX I r.2.1 := by
              refine eX_m ?_
              intro t' ht'
              rw [r3 t' (by omega), u2_ne (by omega), u2_ne (by omega)]
            have j1 : ∀ p' : Int, (i : Int) ≤ p' → ∀ k (hk : k < (cf (tb s) (v_us V).val 0).length), p' < (k : Int) → (qc_u g u (f61 (fromS (v_chf V g) u)) ((cf (tb s) (v_us V).val 0)[k])).val = 0 := by
              intro p' hp' k hk hik
              have hne : (cf (tb s) (v_us V).val 0)[k] ≠ u := by
                intro e
                rw [hu] at e
                have := (CG_ne hG hk hi).1 e
                omega
              unfold qc_u
              rw [if_neg hne]
              exact inv1 k hk (by omega)
            have j2 : ∀ v, v < (v_us V).val → tb s v = true → (qc_u g u (f61 (fromS (v_chf V g) u)) v).val = 0 ∨ (v_lo V v).val ≤ (qc_u g u (f61 (fromS (v_chf V g) u)) v).val := by
              intro v hv hvt
              unfold qc_u
              by_cases e : v = u
              · subst e
                rw [if_pos rfl, hfv, hfr]
                right
                rcases inv2 v hv hvt with c0 | c0
                · rw [if_pos c0]; exact Nat.le_refl _
                · split
                  · exact Nat.le_refl _
                  · omega
              · rw [if_neg e]; exact inv2 v hv hvt
            have j3 : ∀ v, v < (v_us V).val → tb s v = false → qc_u g u (f61 (fromS (v_chf V g) u)) v = v_ch V v := by
              intro v hv hvt
              have : v ≠ u := by
                intro e
                rw [e, hmem.2.2] at hvt
                exact absurd hvt (by decide)
              unfold qc_u
              rw [if_neg this]
              exact inv3 v hv hvt
            have j4 : ∀ k (hk : k < (cf (tb s) (v_us V).val 0).length), (k : Int) < (i : Int) + 1 → (v_lo V ((cf (tb s) (v_us V).val 0)[k])).val ≤ (v_hi V ((cf (tb s) (v_us V).val 0)[k])).val := by
              intro k hk hki
              by_cases e : k = i
              · subst e
                rw [← hu]
                have hlf : (v_lo V u).val ≤ fromS (v_chf V g) u := by
                  rw [hfr]
                  rcases inv2 u huL hmem.2.2 with c0 | c0
                  · rw [if_pos c0]; exact Nat.le_refl _
                  · split
                    · exact Nat.le_refl _
                    · omega
                omega
              · exact inv4 k hk (by omega)
            have kL : ¬ zI (L : Nat) = zI 600 := by rw [zI_eq] <;> omega
            have r2' : r.1 = bI (cleanS (v_setch (v_chf V g) u (f61 (fromS (v_chf V g) u)))) := r2
            cases ec : cleanS (v_setch (v_chf V g) u (f61 (fromS (v_chf V g) u)))
            · rw [ec] at e1 r2'
              obtain ⟨res, x, I', J', M', g', L', k1, k2, k3, k4, k5, k6, k7, k8, k9⟩ := ih (F' + 1) (t + 1) (L + 1) (i : Int) (qc_u g u (f61 (fromS (v_chf V g) u))) r.2.1 r.2.2 M6 (by omega) (by omega) (by omega) (by omega) (by omega) (by omega) hS2 e2 hW2 hL2 e3 (j1 (i : Int) (by omega)) j2 j3 inv4
              refine ⟨res, x, I', J', M', g', L', ?_, ?_, k3, k4, k5, ?_, eX_t eI k7, eJ_t (eJ_g r4) k8, eK_t e4 k9⟩
              · rw [xhead, if_pos kA, if_neg kL, r1]
                simp only [Option.bind_some]
                rw [r2', if_pos (show bI false = zI 0 from rfl)]
                simp only [Option.bind_some]
                rw [zI_add, Int.add_zero]
                exact k1
              · rw [huM, e1 F', if_neg (show ¬ false = true by decide), ← huM]
                exact k2
              · rcases k6 with ⟨a1, a2, a3, a4, a5, a6⟩ | k6
                · exact Or.inl ⟨a1, a2, a3, a4, by omega, a6⟩
                · exact Or.inr k6
            · rw [ec] at e1 r2'
              obtain ⟨res, x, I', J', M', g', L', k1, k2, k3, k4, k5, k6, k7, k8, k9⟩ := ih F' (t + 1) (L + 1) ((i : Int) + 1) (qc_u g u (f61 (fromS (v_chf V g) u))) r.2.1 r.2.2 M6 (by omega) (by omega) (by omega) (by omega) (by omega) (by omega) hS2 e2 hW2 hL2 e3 (j1 ((i : Int) + 1) (by omega)) j2 j3 j4
              have hu2 : uM (cf (tb s) (v_us V).val 0) ((i : Int) + 1) = (((cf (tb s) (v_us V).val 0).getD (i + 1) 6 : Nat) : Int) := by
                unfold uM
                rw [if_neg (by omega), show ((i : Int) + 1).toNat = i + 1 by omega]
              rw [hu2] at k2
              refine ⟨res, x, I', J', M', g', L', ?_, ?_, k3, k4, k5, ?_, eX_t eI k7, eJ_t (eJ_g r4) k8, eK_t e4 k9⟩
              · rw [xhead, if_pos kA, if_neg kL, r1]
                simp only [Option.bind_some]
                rw [r2', if_neg (show ¬ bI true = zI 0 by decide)]
                simp only [Option.bind_some]
                rw [zI_add]
                exact k1
              · rw [huM, e1 F', if_pos (show true = true from rfl)]
                exact k2
              · rcases k6 with ⟨a1, a2, a3, a4, a5, a6⟩ | k6
                · exact Or.inl ⟨a1, a2, a3, a4, by omega, a6⟩
                · exact Or.inr k6
