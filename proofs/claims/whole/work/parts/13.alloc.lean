/-! NEW CELLS: a token m = n comes to be; the pool's functions already hold what is new there -/
def qc_wf (R : Nat → Nat → Option Nat) (n : Nat) : Prop := ∀ t j v, R t j = some v → v < n
theorem qc_wf.up {R : Nat → Nat → Option Nat} {n m : Nat} (h : qc_wf R n) (hm : n ≤ m) : qc_wf R m := fun t j v e => Nat.lt_of_lt_of_le (h t j v e) hm
theorem qc_wf.set {R : Nat → Nat → Option Nat} {n t j v : Nat} (h : qc_wf R n) (hv : v < n) : qc_wf (qc_u2 R t j (some v)) n := by
  intro a b c e
  unfold qc_u2 qc_u at e
  by_cases ha : a = t
  · rw [if_pos ha] at e
    by_cases hb : b = j
    · rw [if_pos hb] at e; cases e; exact hv
    · rw [if_neg hb] at e; exact h _ _ _ e
  · rw [if_neg ha] at e; exact h _ _ _ e
theorem qc_E_ad {ca : Nat → ClassId} {ad ad' : Nat → Nat} {h : qc_Pl} {t : Nat} (hR : ∀ j v, qc_R h t j = some v → ad' v = ad v) : qc_E ca ad' h t = qc_E ca ad h t := by
  have hf : qc_fs ad' h t = qc_fs ad h t := by
    unfold qc_fs
    exact List.map_congr_left fun j _ => qc_val_ad (fun v e => hR j v e)
  have hr : (fun j => (qc_R h t j).map ad') = (fun j => (qc_R h t j).map ad) := by
    funext j
    cases e : qc_R h t j with
    | none => rfl
    | some v => simp [hR j v e]
  unfold qc_E
  rw [hf, hr]
theorem qc_W_push {ca : Nat → ClassId} {ad : Nat → Nat} {I : Nat → Nat → Int32} {J : Nat → Nat → Int64} {R : Nat → Nat → Option Nat} {K N : Nat → Nat} {m q : Nat} (hwf : qc_wf R m) : qc_W ca (qc_u ad m q) (I, J, (R, K, N, m + 1)) = qc_W ca ad (I, J, (R, K, N, m)) ++ [(q, qc_E ca (qc_u ad m q) (I, J, (R, K, N, m + 1)) m)] := by
  apply List.ext_getElem?
  intro i
  by_cases hi : i < m
  · rw [List.getElem?_append_left (by rw [qc_W_len]; exact hi)]
    rw [qc_W_at (h := (I, J, (R, K, N, m + 1))) (show i < m + 1 by omega), qc_W_at (h := (I, J, (R, K, N, m))) hi]
    rw [qc_u_n _ _ (by omega : i ≠ m)]
    have e : qc_E ca (qc_u ad m q) (I, J, (R, K, N, m + 1)) i = qc_E ca ad (I, J, (R, K, N, m)) i := by
      rw [qc_E_cong (h := (I, J, (R, K, N, m))) (h' := (I, J, (R, K, N, m + 1))) rfl rfl rfl rfl rfl]
      exact qc_E_ad (fun j v e => qc_u_n _ _ (by have := hwf _ _ _ e; omega))
    rw [e]
  · rw [List.getElem?_append_right (by rw [qc_W_len]; show m ≤ i; omega), qc_W_len]
    by_cases hm : i = m
    · subst hm
      rw [qc_W_at (h := (I, J, (R, K, N, i + 1))) (show i < i + 1 by omega)]
      rw [qc_u_s]
      show _ = [_][i - i]?
      rw [Nat.sub_self]
      rfl
    · rw [qc_W_none (h := (I, J, (R, K, N, m + 1))) (show ¬ i < m + 1 by omega)]
      rw [List.getElem?_eq_none]
      show 1 ≤ i - m
      omega
section QNEW
variable {F : qc_F} {cc : ByteArray} {own nm : String} {rF rC rS rL cells slots pc : Nat} {ls : List (Option Value)} {st : List Value} {I : Nat → Nat → Int32} {J : Nat → Nat → Int64} {R : Nat → Nat → Option Nat} {K N : Nat → Nat} {m : Nat}
/-- Object.<init> -/
theorem qa_obj {idx t : Nat} {h : qc_Pl} (cx : qc_X F cc own nm rF rC rS rL) (hd : decode cc pc = .ok (.invokespecial idx, 3)) (w1 : Cond.methodLink own idx objectInit ∈ qc_GW) (w2 : Cond.instanceMethod objectInit ∈ qc_GW) (w3 : Cond.code objectInit ⟨#[0xb1]⟩ 1 none ∈ qc_GW) (hf : 1 ≤ rF ∧ 20 ≤ rL) (hst : (st.map fun v => v.category).sum ≤ 8) (k : qc_J F cells slots (pc + 3) ls st h) : qc_J F cells slots pc ls (.ref t :: st) h := by
  obtain ⟨p, l, e, R, s, m, args, below, meth, c, nL, D, ca, A, n0, ad0, Q⟩ := F
  obtain ⟨hx, hb, hml, hown, hts, hlocks, hG, hroom, hnm⟩ := cx
  intro ad H locs la hw hS ha hl
  refine W.objInit hx hb hown (hts _ w1) (hts _ w2) (hts _ w3) (g := F0 m pc la (.ref (ad t) :: st.map (qc_rv ad))) rfl (by rw [hml]; exact hl.1) rfl hd (by omega) ?_ (k ad H locs la hw hS ha hl)
  show 2 * 0 + _ + 12 ≤ _
  rw [qc_cats]
  omega
theorem qa_after {p : Program} {l : Launch} {e : Env} {R0 : Room} {s : State} {m0 : MethodId} {args : Array Value} {below : List Frame} {meth : Method} {c : Code} {nL : Nat} {D : va_G} {ca : Nat → ClassId} {A : Nat → Prop} {n0 : Nat} {ad0 : Nat → Nat} {Q : State → Prop} {ad : Nat → Nat} {H1 : Heap} {locs : List Loc} {la : Array Slot} {q pc1 c1 s1 : Nat}
    (k : qc_J (p, l, e, R0, s, m0, args, below, meth, c, nL, D, ca, A, n0, ad0, Q) c1 s1 pc1 ls (.ref m :: st) (I, J, (R, K, N, m + 1))) (hn0 : n0 ≤ m) (hwf : qc_wf R m) (ha : ∀ u, ¬ (n0 ≤ u ∧ u < m) → ad u = ad0 u) (hl : qc_lv la nL ad ls) (hls : qc_tkl m (m + 1) ls = true) (hst : qc_tks m (m + 1) st = true) {E : va_E} (hE : qc_E ca (qc_u ad m q) (I, J, (R, K, N, m + 1)) m = E) (hP : va_P D vwCl (qc_W ca ad (I, J, (R, K, N, m)) ++ [(q, E)]) H1) (hD : va_D A (qc_W ca ad (I, J, (R, K, N, m)) ++ [(q, E)])) (hS : va_S A s.heap H1 locs) : W p l e R0 s m0 args below meth c H1 locs c1 s1 Q (F0 m0 pc1 la (.ref q :: st.map (qc_rv ad))) := by
  subst hE
  have hag : ∀ u, ¬ (m ≤ u ∧ u < m + 1) → qc_u ad m q u = ad u := fun u hu => qc_u_n _ _ (by omega)
  have key := k (qc_u ad m q) H1 locs la ⟨by rw [qc_W_push hwf]; exact hP, by rw [qc_W_push hwf]; exact hD⟩ hS (fun u hu => by
    have hu9 : ¬ (n0 ≤ u ∧ u < m + 1) := hu
    rw [hag u (fun z => hu9 ⟨by omega, z.2⟩)]
    exact ha u (fun z => hu9 ⟨z.1, by omega⟩)) (hl.mono (fun i v hv => qc_tkl_eq hls hag i v hv))
  have e1 : (Value.ref m :: st).map (qc_rv (qc_u ad m q)) = .ref q :: st.map (qc_rv ad) := by
    rw [List.map_cons, qc_tks_eq hst hag]
    show Value.ref (qc_u ad m q m) :: _ = _
    rw [qc_u_s]
  rw [e1] at key
  exact key
/-- newarray of ints -/
theorem qa_newi {len : Nat} {v : Int32} (cx : qc_X F cc own nm rF rC rS rL) (hd : decode cc pc = .ok (.newarray .int, 2)) (w1 : Cond.arrayClass .int ∈ qc_GW) (hv : ¬ v < 0 ∧ v.toNatClampNeg = len) (hb9 : len ≤ 100000) (hk : K m = 8) (hN : N m = len) (hI : I m = fun _ => 0) (hn0 : F.2.2.2.2.2.2.2.2.2.2.2.2.2.2.1 ≤ m) (hwf : qc_wf R m) (hls : qc_tkl m (m + 1) ls = true) (hst : qc_tks m (m + 1) st = true) (hce : cells + 1 ≤ rC ∧ slots + len ≤ rS)
    (k : qc_J F (cells + 1) (slots + len) (pc + 2) ls (.ref m :: st) (I, J, (R, K, N, m + 1))) : qc_J F cells slots pc ls (.int v :: st) (I, J, (R, K, N, m)) := by
  obtain ⟨p, l, e, R0, s, m0, args, below, meth, c, nL, D, ca, A, n0, ad0, Q⟩ := F
  obtain ⟨hx, hb, hml, hown, hts, hlocks, hG, hroom, hnm⟩ := cx
  intro ad H locs la hw hS ha hl
  refine va_newa (atype := .int) (ty := .int) (a0 := (len, .inl (fun _ => 0))) hx hb (hts _ w1) rfl hG.1 hw.1 hw.2 hS (fun q hq => hG.2.2.2.2.1 q hq) (fun _ => rfl) hv.1 hv.2 ?_ (by omega) (by omega) hd (fun q cA H1 hK1 hP hD hS => ?_)
  · show len * 4 ≤ _
    omega
  · have hc : cA = ca 8 := by
      have h1 := (hK1.2 4 (cA, .int) rfl).2
      have h2 := (hG.1.2 0 (ca 8, .int) rfl).2
      have h1 : s.vm.findClass ("[" ++ (FieldType.int).toString) = some cA := h1
      have h2 : s.vm.findClass ("[" ++ (FieldType.int).toString) = some (ca 8) := h2
      exact Option.some.inj (h1.symm.trans h2)
    subst hc
    refine qa_after (E := .inl (ca 8, len, .inl (fun _ => 0))) k hn0 hwf ha hl hls hst ?_ hP hD hS
    rw [qc_E_arr (h := (I, J, (R, K, N, m + 1))) (k := 8) hk (Or.inl rfl)]
    show Sum.inl (ca 8, N m, Sum.inl (I m)) = _
    rw [hN, hI]
/-- newarray of booleans -/
theorem qa_newz {len : Nat} {v : Int32} (cx : qc_X F cc own nm rF rC rS rL) (hd : decode cc pc = .ok (.newarray .boolean, 2)) (w1 : Cond.arrayClass .boolean ∈ qc_GW) (hv : ¬ v < 0 ∧ v.toNatClampNeg = len) (hb9 : len ≤ 100000) (hk : K m = 9) (hN : N m = len) (hI : I m = fun _ => 0) (hn0 : F.2.2.2.2.2.2.2.2.2.2.2.2.2.2.1 ≤ m) (hwf : qc_wf R m) (hls : qc_tkl m (m + 1) ls = true) (hst : qc_tks m (m + 1) st = true) (hce : cells + 1 ≤ rC ∧ slots + len ≤ rS)
    (k : qc_J F (cells + 1) (slots + len) (pc + 2) ls (.ref m :: st) (I, J, (R, K, N, m + 1))) : qc_J F cells slots pc ls (.int v :: st) (I, J, (R, K, N, m)) := by
  obtain ⟨p, l, e, R0, s, m0, args, below, meth, c, nL, D, ca, A, n0, ad0, Q⟩ := F
  obtain ⟨hx, hb, hml, hown, hts, hlocks, hG, hroom, hnm⟩ := cx
  intro ad H locs la hw hS ha hl
  refine va_newa (atype := .boolean) (ty := .boolean) (a0 := (len, .inl (fun _ => 0))) hx hb (hts _ w1) rfl hG.1 hw.1 hw.2 hS (fun q hq => hG.2.2.2.2.1 q hq) (fun _ => rfl) hv.1 hv.2 ?_ (by omega) (by omega) hd (fun q cA H1 hK1 hP hD hS => ?_)
  · show len * 1 ≤ _
    omega
  · have hc : cA = ca 9 := by
      have h1 := (hK1.2 4 (cA, .boolean) rfl).2
      have h2 := (hG.1.2 1 (ca 9, .boolean) rfl).2
      have h1 : s.vm.findClass ("[" ++ (FieldType.boolean).toString) = some cA := h1
      have h2 : s.vm.findClass ("[" ++ (FieldType.boolean).toString) = some (ca 9) := h2
      exact Option.some.inj (h1.symm.trans h2)
    subst hc
    refine qa_after (E := .inl (ca 9, len, .inl (fun _ => 0))) k hn0 hwf ha hl hls hst ?_ hP hD hS
    rw [qc_E_arr (h := (I, J, (R, K, N, m + 1))) (k := 9) hk (Or.inr rfl)]
    show Sum.inl (ca 9, N m, Sum.inl (I m)) = _
    rw [hN, hI]
/-- anewarray of images -/
theorem qa_newq {len idx : Nat} {v : Int32} (cx : qc_X F cc own nm rF rC rS rL) (hd : decode cc pc = .ok (.anewarray idx, 3)) (w1 : Cond.classLink own idx "QuietChannels$Image" ∈ qc_GW) (hv : ¬ v < 0 ∧ v.toNatClampNeg = len) (hb9 : len ≤ 100000) (hk : K m = 10) (hN : N m = len) (hI : R m = fun _ => none) (hn0 : F.2.2.2.2.2.2.2.2.2.2.2.2.2.2.1 ≤ m) (hwf : qc_wf R m) (hls : qc_tkl m (m + 1) ls = true) (hst : qc_tks m (m + 1) st = true) (hce : cells + 1 ≤ rC ∧ slots + len ≤ rS)
    (k : qc_J F (cells + 1) (slots + len) (pc + 3) ls (.ref m :: st) (I, J, (R, K, N, m + 1))) : qc_J F cells slots pc ls (.int v :: st) (I, J, (R, K, N, m)) := by
  obtain ⟨p, l, e, R0, s, m0, args, below, meth, c, nL, D, ca, A, n0, ad0, Q⟩ := F
  obtain ⟨hx, hb, hml, hown, hts, hlocks, hG, hroom, hnm⟩ := cx
  intro ad H locs la hw hS ha hl
  refine va_newq hx hb hown (hts _ w1) hG.2.2.2.2.2.1 hG.1 hw.1 hw.2 hS (fun q hq => hG.2.2.2.2.1 q hq) hv.1 hv.2 (by omega) (by omega) (by omega) hd (fun q cA H1 hK1 hP hD hS => ?_)
  have hc : cA = ca 10 := by
    obtain ⟨-, -, -, -, -, h1⟩ := (hK1.2 4 (cA, .object "QuietChannels$Image") rfl).2
    obtain ⟨-, -, -, -, -, h2⟩ := (hG.1.2 2 (ca 10, .object "QuietChannels$Image") rfl).2
    exact Option.some.inj (h1.symm.trans h2)
  subst hc
  refine qa_after (E := .inl (ca 10, len, .inr (.inr (.inr (.inr (fun _ => none)))))) k hn0 hwf ha hl hls hst ?_ hP hD hS
  rw [qc_E_ref (h := (I, J, (R, K, N, m + 1))) (k := 10) hk (Or.inl rfl)]
  show Sum.inl (ca 10, N m, Sum.inr (Sum.inr (Sum.inr (Sum.inr (fun j => (R m j).map _))))) = _
  rw [hN, hI]
  rfl
def qc_dv (ty : Nat) : Value := match ty with
  | 0 => .int 0
  | 1 => .long 0
  | _ => .null
/-- new -/
theorem qa_new {C : String} {T : u_T} {M : Nat} {tyf : Nat → FieldType} {kk idx : Nat} (cx : qc_X F cc own nm rF rC rS rL) (hd : decode cc pc = .ok (.new idx, 3)) (hcl : qc_cl kk C T M tyf) (hdv : ∀ j, j < M → defaultValue (tyf j) = qc_dv ((qc_fl kk).getD j 0)) (w1 : Cond.classLink own idx C ∈ qc_GW) (w2 : Cond.instantiable C M ∈ qc_GW) (w3 : Cond.initialized C ∈ qc_GW) (hk : K m = kk) (hI : I m = fun _ => 0) (hJ : J m = fun _ => 0) (hR : R m = fun _ => none) (hn0 : F.2.2.2.2.2.2.2.2.2.2.2.2.2.2.1 ≤ m) (hwf : qc_wf R m) (hls : qc_tkl m (m + 1) ls = true) (hst : qc_tks m (m + 1) st = true) (hce : cells + 1 ≤ rC ∧ slots + M ≤ rS)
    (k : qc_J F (cells + 1) (slots + M) (pc + 3) ls (.ref m :: st) (I, J, (R, K, N, m + 1))) : qc_J F cells slots pc ls st (I, J, (R, K, N, m)) := by
  obtain ⟨p, l, e, R0, s, m0, args, below, meth, c, nL, D, ca, A, n0, ad0, Q⟩ := F
  obtain ⟨hx, hb, hml, hown, hts, hlocks, hG, hroom, hnm⟩ := cx
  obtain ⟨h8, hc, hin, hM, hty, hnn⟩ := hcl
  intro ad H locs la hw hS ha hl
  have hfs : ∀ ad' : Nat → Nat, qc_fs ad' (I, J, (R, K, N, m + 1)) m = (List.range M).map (fun j => qc_dv ((qc_fl kk).getD j 0)) := by
    intro ad'
    unfold qc_fs
    show (List.range (qc_fl (K m)).length).map _ = _
    rw [hk, hM]
    refine List.map_congr_left fun j _ => ?_
    show qc_val ad' (I, J, (R, K, N, m + 1)) m j ((qc_fl (K m)).getD j 0) = _
    rw [hk]
    unfold qc_val qc_dv
    show (match (qc_fl kk).getD j 0 with | 0 => Value.int (I m j) | 1 => Value.long (J m j) | _ => va_rf ((R m j).map ad')) = _
    rw [hI, hJ, hR]
    rfl
  refine va_new (ci := kk) (fs := (List.range M).map (fun j => qc_dv ((qc_fl kk).getD j 0))) (C := C) (T := T) (N := M) hx hb hts hin tyf hty hown (hts _ w1) (hts _ w2) (hts _ w3) hG.1 hw.1 hw.2 hS (fun q hq => hG.2.2.2.2.1 q hq) hc (fun j hj => ?_) (by omega) (by omega) hd (fun q H1 hP hD hS => ?_)
  · rw [hdv j hj]
    simp [vp_V, hj]
  · refine qa_after (E := .inr (kk, (List.range M).map (fun j => qc_dv ((qc_fl kk).getD j 0)))) k hn0 hwf ha hl hls hst ?_ hP hD hS
    rw [qc_E_obj (h := (I, J, (R, K, N, m + 1))) (k := kk) hk h8, hfs]
end QNEW
/-- two pools that hold the same -/
def qc_sz (h : qc_Pl) (t : Nat) : Nat := if qc_K h t < 8 then (qc_fl (qc_K h t)).length else qc_N h t
def qc_eq (h h' : qc_Pl) : Prop := qc_n h' = qc_n h ∧ ∀ t, t < qc_n h → qc_K h' t = qc_K h t ∧ qc_N h' t = qc_N h t ∧ ∀ j, j < qc_sz h t → h'.1 t j = h.1 t j ∧ h'.2.1 t j = h.2.1 t j ∧ qc_R h' t j = qc_R h t j
theorem arrV_congr {c : ClassId} {N : Nat} {f g : Nat → Value} (h : ∀ j, j < N → f j = g j) : arrV c N f = arrV c N g := by
  unfold arrV
  congr 1
  apply Array.ext
  · simp
  · intro i h1 h2
    simp at h1
    simp [h i h1]
theorem qc_at_eq {D : va_G} {ca : Nat → ClassId} {ad : Nat → Nat} {h h' : qc_Pl} {H : Heap} {t a : Nat} (hK : qc_K h' t = qc_K h t) (hN : qc_N h' t = qc_N h t) (hv : ∀ j, j < qc_sz h t → h'.1 t j = h.1 t j ∧ h'.2.1 t j = h.2.1 t j ∧ qc_R h' t j = qc_R h t j) (hA : va_at D vwCl (a, qc_E ca ad h t) H) : va_at D vwCl (a, qc_E ca ad h' t) H := by
  by_cases h8 : qc_K h t < 8
  · have hf : qc_fs ad h' t = qc_fs ad h t := by
      unfold qc_fs
      rw [hK]
      refine List.map_congr_left fun j hj => ?_
      have hj := hv j (by unfold qc_sz; rw [if_pos h8]; exact List.mem_range.mp hj)
      unfold qc_val
      rw [hj.1, hj.2.1, hj.2.2]
    rw [qc_E_obj rfl h8] at hA
    rw [qc_E_obj hK h8, hf]
    exact hA
  · have hs : qc_sz h t = qc_N h t := by unfold qc_sz; rw [if_neg h8]
    rw [hs] at hv
    by_cases h10 : qc_K h t < 10
    · rw [qc_E_arr rfl (by omega)] at hA
      rw [qc_E_arr hK (by omega), hN]
      have hA : H[a]? = some (arrV (ca (qc_K h t)) (qc_N h t) (fun j => .int (h.1 t j))) := hA
      show H[a]? = some (arrV (ca (qc_K h t)) (qc_N h t) (fun j => .int (h'.1 t j)))
      rw [arrV_congr (g := fun j => .int (h.1 t j)) (fun j hj => by rw [(hv j hj).1])]
      exact hA
    · have e : qc_E ca ad h t = .inl (ca (qc_K h t), qc_N h t, .inr (.inr (.inr (.inr (fun j => (qc_R h t j).map ad))))) := by
        unfold qc_E
        rw [if_neg h8, if_neg h10]
      have e' : qc_E ca ad h' t = .inl (ca (qc_K h t), qc_N h t, .inr (.inr (.inr (.inr (fun j => (qc_R h' t j).map ad))))) := by
        unfold qc_E
        rw [hK, if_neg h8, if_neg h10, hN]
      rw [e] at hA
      rw [e']
      have hA : H[a]? = some (arrV (ca (qc_K h t)) (qc_N h t) (fun j => va_rf ((qc_R h t j).map ad))) := hA
      show H[a]? = some (arrV (ca (qc_K h t)) (qc_N h t) (fun j => va_rf ((qc_R h' t j).map ad)))
      rw [arrV_congr (g := fun j => va_rf ((qc_R h t j).map ad)) (fun j hj => by rw [(hv j hj).2.2])]
      exact hA
theorem qc_wk_eq {D : va_G} {ca : Nat → ClassId} {A : Nat → Prop} {ad : Nat → Nat} {h h' : qc_Pl} {H : Heap} (he : qc_eq h h') (hw : qc_wk D ca A ad h H) : qc_wk D ca A ad h' H := by
  have key : ∀ (i : Nat) (q : Nat × va_E), (qc_W ca ad h')[i]? = some q → i < qc_n h ∧ q = (ad i, qc_E ca ad h' i) := by
    intro i q hq
    by_cases hi : i < qc_n h
    · rw [qc_W_at (show i < qc_n h' by rw [he.1]; exact hi)] at hq
      exact ⟨hi, (Option.some.inj hq).symm⟩
    · rw [qc_W_none (show ¬ i < qc_n h' by rw [he.1]; exact hi)] at hq
      cases hq
  refine ⟨fun i q hq => ?_, fun i j p q hp hq e => ?_, fun i q hq => ?_⟩
  · obtain ⟨hi, rfl⟩ := key i q hq
    obtain ⟨h1, h2, h3⟩ := he.2 i hi
    exact qc_at_eq h1 h2 h3 (hw.1 i _ (qc_W_at hi))
  · obtain ⟨hi, rfl⟩ := key i p hp
    obtain ⟨hj, rfl⟩ := key j q hq
    exact hw.2.1 i j _ _ (qc_W_at hi) (qc_W_at hj) e
  · obtain ⟨hi, rfl⟩ := key i q hq
    exact hw.2.2 i (ad i, qc_E ca ad h i) (qc_W_at hi)
/-- a frame's pool may be told otherwise -/
theorem qa_eqv {F : qc_F} {cells slots pc : Nat} {ls : List (Option Value)} {st : List Value} {h h' : qc_Pl} (he : qc_eq h h') (k : qc_J F cells slots pc ls st h') : qc_J F cells slots pc ls st h := by
  obtain ⟨p, l, e, R0, s, m0, args, below, meth, c, nL, D, ca, A, n0, ad0, Q⟩ := F
  intro ad H locs la hw hS ha hl
  exact k ad H locs la (qc_wk_eq he hw) hS (fun u hu => ha u (fun z => hu ⟨z.1, by rw [he.1]; exact z.2⟩)) hl
