/-! MY POOL: a world as tokens 0, 1, ..: what the ints, longs and references of each token are; kinds, lengths and the number of tokens are its shape -/
abbrev qc_Sh : Type := (Nat → Nat → Option Nat) × (Nat → Nat) × (Nat → Nat) × Nat
abbrev qc_Pl : Type := (Nat → Nat → Int32) × (Nat → Nat → Int64) × qc_Sh
abbrev qc_R (h : qc_Pl) : Nat → Nat → Option Nat := h.2.2.1
abbrev qc_K (h : qc_Pl) : Nat → Nat := h.2.2.2.1
abbrev qc_N (h : qc_Pl) : Nat → Nat := h.2.2.2.2.1
abbrev qc_n (h : qc_Pl) : Nat := h.2.2.2.2.2
/-- tokens from here on are cells that nobody writes -/
abbrev qc_RO : Nat := 1000000
def qc_u {α : Type} (f : Nat → α) (k : Nat) (v : α) : Nat → α := fun j => if j = k then v else f j
def qc_u2 {α : Type} (f : Nat → Nat → α) (t j : Nat) (v : α) : Nat → Nat → α := qc_u f t (qc_u (f t) j v)
theorem qc_u_s {α : Type} (f : Nat → α) (k : Nat) (v : α) : qc_u f k v k = v := by simp [qc_u]
theorem qc_u_n {α : Type} (f : Nat → α) {k j : Nat} (v : α) (h : j ≠ k) : qc_u f k v j = f j := by simp [qc_u, h]
/-- kinds 0 .. 7 are the classes of vwCl; of each the sort of its fields: 0 an int, 1 a long, 2 a reference -/
def qc_ft : List (List Nat) := [[2, 0], [2, 2, 2, 1], [2, 0, 0, 2, 0, 1, 0], [2, 0, 2, 0, 0, 0, 0, 0, 0, 0, 0, 0, 0, 0], [0, 0, 0, 0, 0, 0, 1, 2, 2, 2, 2, 2, 2, 2, 2, 2], [2, 0, 0], [2, 0, 0, 0, 2, 2, 2, 2, 2, 2, 0], [0, 2, 0, 2, 2, 2, 2, 2, 2, 2, 2, 2, 2, 2, 0, 0, 0, 0, 0, 0, 0, 0, 0, 0, 0, 2, 2, 2, 0, 0, 0, 0, 0, 0, 2, 2, 2, 2, 2, 2, 2, 0, 0, 2, 0, 2]]
def qc_fl (k : Nat) : List Nat := qc_ft.getD k []
def qc_val (ad : Nat → Nat) (h : qc_Pl) (t j : Nat) (ty : Nat) : Value := match ty with
  | 0 => .int (h.1 t j)
  | 1 => .long (h.2.1 t j)
  | _ => va_rf ((qc_R h t j).map ad)
def qc_fs (ad : Nat → Nat) (h : qc_Pl) (t : Nat) : List Value := (List.range (qc_fl (qc_K h t)).length).map (fun j => qc_val ad h t j ((qc_fl (qc_K h t)).getD j 0))
def qc_E (ca : Nat → ClassId) (ad : Nat → Nat) (h : qc_Pl) (t : Nat) : va_E :=
  if qc_K h t < 8 then .inr (qc_K h t, qc_fs ad h t)
  else if qc_K h t < 10 then .inl (ca (qc_K h t), qc_N h t, .inl (h.1 t))
  else .inl (ca (qc_K h t), qc_N h t, .inr (.inr (.inr (.inr (fun j => (qc_R h t j).map ad)))))
def qc_W (ca : Nat → ClassId) (ad : Nat → Nat) (h : qc_Pl) : va_W := (List.range (qc_n h)).map (fun t => (ad t, qc_E ca ad h t))
theorem qc_W_at {ca : Nat → ClassId} {ad : Nat → Nat} {h : qc_Pl} {t : Nat} (ht : t < qc_n h) : (qc_W ca ad h)[t]? = some (ad t, qc_E ca ad h t) := by
  unfold qc_W
  rw [List.getElem?_map, List.getElem?_range ht]
  rfl
theorem qc_W_none {ca : Nat → ClassId} {ad : Nat → Nat} {h : qc_Pl} {t : Nat} (ht : ¬ t < qc_n h) : (qc_W ca ad h)[t]? = none := by
  unfold qc_W
  rw [List.getElem?_map, List.getElem?_eq_none (by rw [List.length_range]; omega)]
  rfl
theorem qc_W_len {ca : Nat → ClassId} {ad : Nat → Nat} {h : qc_Pl} : (qc_W ca ad h).length = qc_n h := by
  unfold qc_W
  rw [List.length_map, List.length_range]
theorem qc_W_set {ca : Nat → ClassId} {ad : Nat → Nat} {h h' : qc_Pl} {t : Nat} {e : va_E} (hn : qc_n h' = qc_n h) (ht : t < qc_n h) (he : qc_E ca ad h' t = e) (ho : ∀ u, u ≠ t → qc_E ca ad h' u = qc_E ca ad h u) : (qc_W ca ad h).set t (ad t, e) = qc_W ca ad h' := by
  apply List.ext_getElem?
  intro i
  by_cases hi : i < qc_n h
  · rw [qc_W_at (show i < qc_n h' by rw [hn]; exact hi)]
    by_cases hit : i = t
    · subst hit
      rw [List.getElem?_set_self (by rw [qc_W_len]; exact hi), he]
    · rw [List.getElem?_set_ne (Ne.symm hit), qc_W_at hi, ho i hit]
  · rw [qc_W_none (show ¬ i < qc_n h' by rw [hn]; exact hi)]
    rw [List.getElem?_eq_none]
    rw [List.length_set, qc_W_len]
    omega
/-! what is done to a pool -/
def qc_sI (h : qc_Pl) (t j : Nat) (v : Int32) : qc_Pl := (qc_u2 h.1 t j v, h.2)
def qc_sJ (h : qc_Pl) (t j : Nat) (v : Int64) : qc_Pl := (h.1, qc_u2 h.2.1 t j v, h.2.2)
def qc_sR (h : qc_Pl) (t j : Nat) (v : Option Nat) : qc_Pl := (h.1, h.2.1, qc_u2 h.2.2.1 t j v, h.2.2.2)
/-- a new token, of a kind and a length -/
def qc_nw (h : qc_Pl) (k len : Nat) : qc_Pl := (qc_u h.1 (qc_n h) (fun _ => 0), qc_u h.2.1 (qc_n h) (fun _ => 0), qc_u h.2.2.1 (qc_n h) (fun _ => none), qc_u h.2.2.2.1 (qc_n h) k, qc_u h.2.2.2.2.1 (qc_n h) len, qc_n h + 1)
theorem qc_fs_len {ad : Nat → Nat} {h : qc_Pl} {t : Nat} : (qc_fs ad h t).length = (qc_fl (qc_K h t)).length := by simp [qc_fs]
theorem qc_fs_at {ad : Nat → Nat} {h : qc_Pl} {t j k : Nat} (hk : qc_K h t = k) (hj : j < (qc_fl k).length) : (qc_fs ad h t)[j]? = some (qc_val ad h t j ((qc_fl k).getD j 0)) := by
  subst hk
  unfold qc_fs
  rw [List.getElem?_map, List.getElem?_range hj]
  rfl
theorem qc_E_obj {ca : Nat → ClassId} {ad : Nat → Nat} {h : qc_Pl} {t k : Nat} (hk : qc_K h t = k) (h8 : k < 8) : qc_E ca ad h t = .inr (k, qc_fs ad h t) := by
  subst hk
  unfold qc_E
  rw [if_pos h8]
theorem qc_E_arr {ca : Nat → ClassId} {ad : Nat → Nat} {h : qc_Pl} {t k : Nat} (hk : qc_K h t = k) (h8 : k = 8 ∨ k = 9) : qc_E ca ad h t = .inl (ca k, qc_N h t, .inl (h.1 t)) := by
  subst hk
  unfold qc_E
  rw [if_neg (by omega), if_pos (by omega)]
theorem qc_E_ref {ca : Nat → ClassId} {ad : Nat → Nat} {h : qc_Pl} {t k : Nat} (hk : qc_K h t = k) (h8 : k = 10 ∨ k = 11) : qc_E ca ad h t = .inl (ca k, qc_N h t, .inr (.inr (.inr (.inr (fun j => (qc_R h t j).map ad))))) := by
  subst hk
  unfold qc_E
  rw [if_neg (by omega), if_neg (by omega)]
theorem qc_fs_set {ad : Nat → Nat} {h h' : qc_Pl} {t j : Nat} {v : Value} (hk : qc_K h' t = qc_K h t) (hv : qc_val ad h' t j ((qc_fl (qc_K h t)).getD j 0) = v) (ho : ∀ i ty, i ≠ j → qc_val ad h' t i ty = qc_val ad h t i ty) : qc_fs ad h' t = (qc_fs ad h t).set j v := by
  apply List.ext_getElem?
  intro i
  unfold qc_fs
  rw [hk]
  by_cases hi : i < (qc_fl (qc_K h t)).length
  · by_cases hij : i = j
    · subst hij
      rw [List.getElem?_set_self (by simpa using hi), List.getElem?_map, List.getElem?_range hi]
      simp only [Option.map_some]
      rw [hv]
    · rw [List.getElem?_set_ne (Ne.symm hij), List.getElem?_map, List.getElem?_map, List.getElem?_range hi]
      simp only [Option.map_some]
      rw [ho i _ hij]
  · rw [List.getElem?_eq_none (by simp; omega), List.getElem?_eq_none (by simp; omega)]
theorem qc_E_cong {ca : Nat → ClassId} {ad : Nat → Nat} {h h' : qc_Pl} {u : Nat} (hI : h'.1 u = h.1 u) (hJ : h'.2.1 u = h.2.1 u) (hR : qc_R h' u = qc_R h u) (hK : qc_K h' u = qc_K h u) (hN : qc_N h' u = qc_N h u) : qc_E ca ad h' u = qc_E ca ad h u := by
  have hv : ∀ j ty, qc_val ad h' u j ty = qc_val ad h u j ty := by
    intro j ty
    unfold qc_val
    rw [hI, hJ, hR]
  have hf : qc_fs ad h' u = qc_fs ad h u := by
    unfold qc_fs
    rw [hK]
    exact List.map_congr_left fun j _ => hv j _
  unfold qc_E
  rw [hK, hN, hI, hf, hR]
theorem qc_sI_ne {ca : Nat → ClassId} {ad : Nat → Nat} {h : qc_Pl} {t j : Nat} {v : Int32} : ∀ u, u ≠ t → qc_E ca ad (qc_sI h t j v) u = qc_E ca ad h u := by
  intro u hu
  exact qc_E_cong (by simp [qc_sI, qc_u2, qc_u, hu]) rfl rfl rfl rfl
theorem qc_sJ_ne {ca : Nat → ClassId} {ad : Nat → Nat} {h : qc_Pl} {t j : Nat} {v : Int64} : ∀ u, u ≠ t → qc_E ca ad (qc_sJ h t j v) u = qc_E ca ad h u := by
  intro u hu
  exact qc_E_cong rfl (by simp [qc_sJ, qc_u2, qc_u, hu]) rfl rfl rfl
theorem qc_sR_ne {ca : Nat → ClassId} {ad : Nat → Nat} {h : qc_Pl} {t j : Nat} {v : Option Nat} : ∀ u, u ≠ t → qc_E ca ad (qc_sR h t j v) u = qc_E ca ad h u := by
  intro u hu
  exact qc_E_cong rfl rfl (by simp [qc_sR, qc_u2, qc_u, hu, qc_R]) rfl rfl
theorem qc_val_ad {ad ad' : Nat → Nat} {h : qc_Pl} {t j ty : Nat} (hR : ∀ v, qc_R h t j = some v → ad' v = ad v) : qc_val ad' h t j ty = qc_val ad h t j ty := by
  unfold qc_val
  split
  · rfl
  · rfl
  · cases e : qc_R h t j with
    | none => rfl
    | some v => simp [hR v e]
theorem qc_sI_obj {ca : Nat → ClassId} {ad : Nat → Nat} {h : qc_Pl} {t j k : Nat} {v : Int32} (hk : qc_K h t = k) (h8 : k < 8) (hty : (qc_fl k).getD j 0 = 0) : qc_E ca ad (qc_sI h t j v) t = .inr (k, (qc_fs ad h t).set j (.int v)) := by
  rw [qc_E_obj (h := qc_sI h t j v) (k := k) hk h8]
  congr 2
  refine qc_fs_set rfl ?_ ?_
  · rw [hk, hty]
    simp [qc_val, qc_sI, qc_u2, qc_u]
  · intro i ty hi
    unfold qc_val
    split <;> simp [qc_sI, qc_u2, qc_u, hi, qc_R]
theorem qc_sJ_obj {ca : Nat → ClassId} {ad : Nat → Nat} {h : qc_Pl} {t j k : Nat} {v : Int64} (hk : qc_K h t = k) (h8 : k < 8) (hty : (qc_fl k).getD j 0 = 1) : qc_E ca ad (qc_sJ h t j v) t = .inr (k, (qc_fs ad h t).set j (.long v)) := by
  rw [qc_E_obj (h := qc_sJ h t j v) (k := k) hk h8]
  congr 2
  refine qc_fs_set rfl ?_ ?_
  · rw [hk, hty]
    simp [qc_val, qc_sJ, qc_u2, qc_u]
  · intro i ty hi
    unfold qc_val
    split <;> simp [qc_sJ, qc_u2, qc_u, hi, qc_R]
theorem qc_sR_obj {ca : Nat → ClassId} {ad : Nat → Nat} {h : qc_Pl} {t j k : Nat} {v : Option Nat} (hk : qc_K h t = k) (h8 : k < 8) (hty : (qc_fl k).getD j 0 = 2) : qc_E ca ad (qc_sR h t j v) t = .inr (k, (qc_fs ad h t).set j (va_rf (v.map ad))) := by
  rw [qc_E_obj (h := qc_sR h t j v) (k := k) hk h8]
  congr 2
  refine qc_fs_set rfl ?_ ?_
  · rw [hk, hty]
    simp [qc_val, qc_sR, qc_u2, qc_u, qc_R]
  · intro i ty hi
    unfold qc_val
    split <;> simp [qc_sR, qc_u2, qc_u, hi, qc_R]
theorem qc_sI_arr {ca : Nat → ClassId} {ad : Nat → Nat} {h : qc_Pl} {t j k : Nat} {v : Int32} (hk : qc_K h t = k) (h8 : k = 8 ∨ k = 9) : qc_E ca ad (qc_sI h t j v) t = .inl (ca k, qc_N h t, .inl (upd (h.1 t) j v)) := by
  rw [qc_E_arr (h := qc_sI h t j v) (k := k) hk h8]
  have e : (qc_sI h t j v).1 t = upd (h.1 t) j v := by
    funext i
    simp [qc_sI, qc_u2, qc_u, upd]
  rw [e]
  rfl
theorem qc_sR_arr {ca : Nat → ClassId} {ad : Nat → Nat} {h : qc_Pl} {t j k : Nat} {v : Option Nat} (hk : qc_K h t = k) (h8 : k = 10 ∨ k = 11) : qc_E ca ad (qc_sR h t j v) t = .inl (ca k, qc_N h t, .inr (.inr (.inr (.inr (va_up (fun j => (qc_R h t j).map ad) j (v.map ad)))))) := by
  rw [qc_E_ref (h := qc_sR h t j v) (k := k) hk h8]
  have e : (fun i => (qc_R (qc_sR h t j v) t i).map ad) = va_up (fun j => (qc_R h t j).map ad) j (v.map ad) := by
    funext i
    by_cases hi : i = j
    · subst hi; simp [qc_sR, qc_u2, qc_u, va_up, qc_R]
    · simp [qc_sR, qc_u2, qc_u, va_up, qc_R, hi]
  rw [e]
  rfl
/-- a value by its token -/
def qc_rv (ad : Nat → Nat) (v : Value) : Value := match v with
  | .ref t => .ref (ad t)
  | v => v
theorem qc_rv_cat (ad : Nat → Nat) (v : Value) : (qc_rv ad v).category = v.category := by cases v <;> rfl
/-! the locals, by place; none: not looked at -/
def qc_lv (la : Array Slot) (nL : Nat) (ad : Nat → Nat) (ls : List (Option Value)) : Prop := la.size = nL ∧ lv_wf la ∧ ls.length ≤ nL ∧ ∀ (i : Nat) (v : Value), ls[i]? = some (some v) → la[i]? = some (.val (qc_rv ad v))
def qc_en (ad : Nat → Nat) (ls : List (Option Value)) : List (Nat × Value) := (List.range ls.length).filterMap (fun i => match ls[i]? with
  | some (some v) => some (i, qc_rv ad v)
  | _ => none)
theorem qc_en_mem {ad : Nat → Nat} {ls : List (Option Value)} {i : Nat} {v : Value} (h : ls[i]? = some (some v)) : (i, qc_rv ad v) ∈ qc_en ad ls := by
  refine List.mem_filterMap.mpr ⟨i, List.mem_range.mpr (List.getElem?_eq_some_iff.mp h).1, ?_⟩
  rw [h]
theorem qc_en_of {ad : Nat → Nat} {ls : List (Option Value)} {q : Nat × Value} (h : q ∈ qc_en ad ls) : ∃ v, ls[q.1]? = some (some v) ∧ q.2 = qc_rv ad v := by
  obtain ⟨i, -, hi⟩ := List.mem_filterMap.mp h
  split at hi
  · next v hv =>
    cases hi
    exact ⟨v, hv, rfl⟩
  · cases hi
theorem qc_lv.has {la : Array Slot} {nL : Nat} {ad : Nat → Nat} {ls : List (Option Value)} (h : qc_lv la nL ad ls) : lv_has la nL (qc_en ad ls) := by
  refine ⟨h.1, h.2.1, fun q hq => ?_⟩
  obtain ⟨v, h1, h2⟩ := qc_en_of hq
  rw [h2]
  exact h.2.2.2 _ _ h1
/-- a local's slot does not end a long -/
def qc_o1 (ls : List (Option Value)) (i : Nat) : Bool := match i with
  | 0 => true
  | k + 1 => match ls[k]? with
    | some (some v) => v.category == 1
    | _ => true
theorem qc_lv.put {la' : Array Slot} {nL : Nat} {ad : Nat → Nat} {ls : List (Option Value)} {i : Nat} {v : Value} (hn : ls.length ≤ nL) (h1 : qc_o1 ls i = true) (h : lv_has la' nL ((i, qc_rv ad v) :: (qc_en ad ls).filter (fun q => !(q.1 == i) && !(q.1 + 1 == i && q.2.category == 2)))) : qc_lv la' nL ad (ls.set i (some v)) := by
  refine ⟨h.1, h.2.1, by rw [List.length_set]; exact hn, fun j w hj => ?_⟩
  by_cases hji : j = i
  · subst hji
    have hl : j < ls.length := by
      have := (List.getElem?_eq_some_iff.mp hj).1
      simpa using this
    rw [List.getElem?_set_self hl] at hj
    cases hj
    exact h.2.2 (j, qc_rv ad v) List.mem_cons_self
  · rw [List.getElem?_set_ne (Ne.symm hji)] at hj
    refine h.2.2 (j, qc_rv ad w) (List.mem_cons_of_mem _ (List.mem_filter.mpr ⟨qc_en_mem hj, ?_⟩))
    have hc : j + 1 = i → w.category = 1 := by
      intro e
      subst e
      simp only [qc_o1, hj, beq_iff_eq] at h1
      exact h1
    simp only [qc_rv_cat]
    by_cases e : j + 1 = i
    · simp [hji, hc e]
    · simp [hji, e]
theorem qc_lv.put2 {la' : Array Slot} {nL : Nat} {ad : Nat → Nat} {ls : List (Option Value)} {i : Nat} {v : Value} (hn : ls.length ≤ nL) (h1 : qc_o1 ls i = true) (h : lv_has la' nL ((i, qc_rv ad v) :: (qc_en ad ls).filter (fun q => !(q.1 == i) && (!(q.1 == i + 1) && !(q.1 + 1 == i && q.2.category == 2))))) : qc_lv la' nL ad ((ls.set i (some v)).set (i + 1) none) := by
  refine ⟨h.1, h.2.1, by rw [List.length_set, List.length_set]; exact hn, fun j w hj => ?_⟩
  by_cases hj1 : j = i + 1
  · subst hj1
    rw [List.getElem?_set] at hj
    simp at hj
  · rw [List.getElem?_set_ne (Ne.symm hj1)] at hj
    by_cases hji : j = i
    · subst hji
      have hl : j < ls.length := by
        have := (List.getElem?_eq_some_iff.mp hj).1
        simpa using this
      rw [List.getElem?_set_self hl] at hj
      cases hj
      exact h.2.2 (j, qc_rv ad v) List.mem_cons_self
    · rw [List.getElem?_set_ne (Ne.symm hji)] at hj
      refine h.2.2 (j, qc_rv ad w) (List.mem_cons_of_mem _ (List.mem_filter.mpr ⟨qc_en_mem hj, ?_⟩))
      have hc : j + 1 = i → w.category = 1 := by
        intro e
        subst e
        simp only [qc_o1, hj, beq_iff_eq] at h1
        exact h1
      simp only [qc_rv_cat]
      by_cases e : j + 1 = i
      · simp [hji, hj1, hc e]
      · simp [hji, hj1, e]
/-- the locals at a method's entry -/
def qc_ent : List Value → List (Option Value)
  | [] => []
  | v :: l => if v.category = 2 then some v :: none :: qc_ent l else some v :: qc_ent l
theorem qc_lv.mono {la : Array Slot} {nL : Nat} {ad ad' : Nat → Nat} {ls : List (Option Value)} (h : qc_lv la nL ad ls) (he : ∀ (i : Nat) (v : Value), ls[i]? = some (some v) → qc_rv ad' v = qc_rv ad v) : qc_lv la nL ad' ls :=
  ⟨h.1, h.2.1, h.2.2.1, fun i v hv => by rw [he i v hv]; exact h.2.2.2 i v hv⟩
theorem qc_lv.sub {la : Array Slot} {nL : Nat} {ad : Nat → Nat} {ls ls' : List (Option Value)} (h : qc_lv la nL ad ls) (hn : ls'.length ≤ ls.length) (he : ∀ (i : Nat) (v : Value), ls'[i]? = some (some v) → ls[i]? = some (some v)) : qc_lv la nL ad ls' :=
  ⟨h.1, h.2.1, Nat.le_trans hn h.2.2.1, fun i v hv => h.2.2.2 i v (he i v hv)⟩
