def qc_let {α β : Type} (a : α) (f : α → Option β) : Option β := f a
theorem qc_letE {α β : Type} {a : α} {f : α → Option β} {r : β} (h : qc_let a f = some r) : ∃ x, x = a ∧ f x = some r := ⟨a, rfl, h⟩
theorem qc_ifT {α : Type} {c : Prop} [Decidable c] {a b : α} {r : α} (h : (if c then a else b) = r) (hc : c) : a = r := by rw [if_pos hc] at h; exact h
theorem qc_ifF {α : Type} {c : Prop} [Decidable c] {a b : α} {r : α} (h : (if c then a else b) = r) (hc : ¬ c) : b = r := by rw [if_neg hc] at h; exact h
theorem qc_ck {α : Type} {c : Prop} [Decidable c] {a : Option α} {r : α} (h : (if c then a else none) = some r) : c ∧ a = some r := by
  by_cases hc : c
  · rw [if_pos hc] at h; exact ⟨hc, h⟩
  · rw [if_neg hc] at h; cases h
/-- an index within -/
abbrev qc_in (i : Int32) (n : Nat) : Prop := ¬ (i < 0 ∨ n ≤ i.toNatClampNeg)
abbrev qc_bo (x : Int32) : Prop := x = 0 ∨ x = 1
def qc_fu : Nat := 100000
theorem qc_bo_n {x : Int32} (h : qc_bo x) : narrow .boolean (.int x) = .int x := by rcases h with rfl | rfl <;> decide
theorem qc_bo_f {x : Int32} (h : qc_bo x) : fits .boolean (.int x) = true := by rcases h with rfl | rfl <;> decide
theorem qw_top {F : qc_F} {cells slots pc : Nat} {ls : List (Option Value)} {st : List Value} {h : qc_Pl} {x y : Int32} (e : y = x) (k : qc_J F cells slots pc ls (.int y :: st) h) : qc_J F cells slots pc ls (.int x :: st) h := e ▸ k
theorem qw_topl {F : qc_F} {cells slots pc : Nat} {ls : List (Option Value)} {st : List Value} {h : qc_Pl} {x y : Int64} (e : y = x) (k : qc_J F cells slots pc ls (.long y :: st) h) : qc_J F cells slots pc ls (.long x :: st) h := e ▸ k
theorem qw_sub {F : qc_F} {cells slots pc : Nat} {ls : List (Option Value)} {st : List Value} {h : qc_Pl} {ls1 : List (Option Value)} (hn : decide (ls1.length ≤ ls.length) = true) (he : ∀ (i : Nat) (v : Value), ls1[i]? = some (some v) → ls[i]? = some (some v)) (k : qc_J F cells slots pc ls1 st h) : qc_J F cells slots pc ls st h := qj_sub (cc := ⟨#[]⟩) (own := "") (nm := "") (rF := 0) (rC := 0) (rS := 0) (rL := 0) hn he k
theorem qw_getI {F : qc_F} {cc : ByteArray} {own nm : String} {rF rC rS rL cells slots pc : Nat} {ls : List (Option Value)} {st : List Value} {I : Nat → Nat → Int32} {J : Nat → Nat → Int64} {S : qc_Sh} {C : String} {T : u_T} {N : Nat} {tyf : Nat → FieldType} {kk t j idx : Nat} (cx : qc_X F cc own nm rF rC rS rL) (hd : decode cc pc = .ok (.getfield idx, 3)) (hcl : qc_cl kk C T N tyf) (hk : S.2.1 t = kk) (ht : t < S.2.2.2) (hj : (qc_fl kk)[j]? = some 0) (hf : Cond.fieldLink own idx (T j).1 (T j).2.1 (T j).2.2.1 ∈ qc_GW) (k : qc_J F cells slots (pc + 3) ls (.int (I t j) :: st) (I, J, S)) : qc_J F cells slots pc ls (.ref t :: st) (I, J, S) := qj_getI cx hd hcl hk ht hj hf k
theorem qw_getJ {F : qc_F} {cc : ByteArray} {own nm : String} {rF rC rS rL cells slots pc : Nat} {ls : List (Option Value)} {st : List Value} {I : Nat → Nat → Int32} {J : Nat → Nat → Int64} {S : qc_Sh} {C : String} {T : u_T} {N : Nat} {tyf : Nat → FieldType} {kk t j idx : Nat} (cx : qc_X F cc own nm rF rC rS rL) (hd : decode cc pc = .ok (.getfield idx, 3)) (hcl : qc_cl kk C T N tyf) (hk : S.2.1 t = kk) (ht : t < S.2.2.2) (hj : (qc_fl kk)[j]? = some 1) (hf : Cond.fieldLink own idx (T j).1 (T j).2.1 (T j).2.2.1 ∈ qc_GW) (k : qc_J F cells slots (pc + 3) ls (.long (J t j) :: st) (I, J, S)) : qc_J F cells slots pc ls (.ref t :: st) (I, J, S) := qj_getJ cx hd hcl hk ht hj hf k
theorem qw_getR {F : qc_F} {cc : ByteArray} {own nm : String} {rF rC rS rL cells slots pc : Nat} {ls : List (Option Value)} {st : List Value} {I : Nat → Nat → Int32} {J : Nat → Nat → Int64} {S : qc_Sh} {C : String} {T : u_T} {N : Nat} {tyf : Nat → FieldType} {kk t j idx : Nat} {t1 : Nat} (cx : qc_X F cc own nm rF rC rS rL) (hd : decode cc pc = .ok (.getfield idx, 3)) (hcl : qc_cl kk C T N tyf) (hk : S.2.1 t = kk) (ht : t < S.2.2.2) (hj : (qc_fl kk)[j]? = some 2) (hf : Cond.fieldLink own idx (T j).1 (T j).2.1 (T j).2.2.1 ∈ qc_GW) (hr : S.1 t j = some t1) (k : qc_J F cells slots (pc + 3) ls (.ref t1 :: st) (I, J, S)) : qc_J F cells slots pc ls (.ref t :: st) (I, J, S) := qj_getR cx hd hcl hk ht hj hf hr k
theorem qw_putI {F : qc_F} {cc : ByteArray} {own nm : String} {rF rC rS rL cells slots pc : Nat} {ls : List (Option Value)} {st : List Value} {I I1 : Nat → Nat → Int32} {J : Nat → Nat → Int64} {S : qc_Sh} {C : String} {T : u_T} {N : Nat} {tyf : Nat → FieldType} {kk t j idx : Nat} {v : Int32} (cx : qc_X F cc own nm rF rC rS rL) (hd : decode cc pc = .ok (.putfield idx, 3)) (hcl : qc_cl kk C T N tyf) (hk : S.2.1 t = kk) (ht : t < S.2.2.2) (hj : (qc_fl kk)[j]? = some 0) (hf : Cond.fieldLink own idx (T j).1 (T j).2.1 (T j).2.2.1 ∈ qc_GW) (hn : narrow (tyf j) (.int v) = .int v) (hfit : fits (tyf j) (.int v) = true) (hfin : (T j).2.2.2 = false) (e : I1 = qc_u2 I t j v) (k : qc_J F cells slots (pc + 3) ls st (I1, J, S)) : qc_J F cells slots pc ls (.int v :: .ref t :: st) (I, J, S) := qj_putI cx hd hcl hk ht hj hf hn hfit hfin (by rw [e] at k; exact k)
theorem qw_putJ {F : qc_F} {cc : ByteArray} {own nm : String} {rF rC rS rL cells slots pc : Nat} {ls : List (Option Value)} {st : List Value} {I : Nat → Nat → Int32} {J J1 : Nat → Nat → Int64} {S : qc_Sh} {C : String} {T : u_T} {N : Nat} {tyf : Nat → FieldType} {kk t j idx : Nat} {v : Int64} (cx : qc_X F cc own nm rF rC rS rL) (hd : decode cc pc = .ok (.putfield idx, 3)) (hcl : qc_cl kk C T N tyf) (hk : S.2.1 t = kk) (ht : t < S.2.2.2) (hj : (qc_fl kk)[j]? = some 1) (hf : Cond.fieldLink own idx (T j).1 (T j).2.1 (T j).2.2.1 ∈ qc_GW) (hn : narrow (tyf j) (.long v) = .long v) (hfit : fits (tyf j) (.long v) = true) (hfin : (T j).2.2.2 = false) (e : J1 = qc_u2 J t j v) (k : qc_J F cells slots (pc + 3) ls st (I, J1, S)) : qc_J F cells slots pc ls (.long v :: .ref t :: st) (I, J, S) := qj_putJ cx hd hcl hk ht hj hf hn hfit hfin (by rw [e] at k; exact k)
theorem qw_iald {F : qc_F} {cc : ByteArray} {own nm : String} {rF rC rS rL cells slots pc : Nat} {ls : List (Option Value)} {st : List Value} {I : Nat → Nat → Int32} {J : Nat → Nat → Int64} {S : qc_Sh} {t n1 : Nat} {i : Int32} (cx : qc_X F cc own nm rF rC rS rL) (hd : decode cc pc = .ok (.iaload, 1)) (hk : S.2.1 t = 8) (ht : t < S.2.2.2) (hN : S.2.2.1 t = n1) (hin : qc_in i n1) (k : qc_J F cells slots (pc + 1) ls (.int (I t i.toNatClampNeg) :: st) (I, J, S)) : qc_J F cells slots pc ls (.int i :: .ref t :: st) (I, J, S) := qj_iald cx hd hk ht hN hin k
theorem qw_zald {F : qc_F} {cc : ByteArray} {own nm : String} {rF rC rS rL cells slots pc : Nat} {ls : List (Option Value)} {st : List Value} {I : Nat → Nat → Int32} {J : Nat → Nat → Int64} {S : qc_Sh} {t n1 : Nat} {i : Int32} (cx : qc_X F cc own nm rF rC rS rL) (hd : decode cc pc = .ok (.baload, 1)) (hk : S.2.1 t = 9) (ht : t < S.2.2.2) (hN : S.2.2.1 t = n1) (hin : qc_in i n1) (k : qc_J F cells slots (pc + 1) ls (.int (I t i.toNatClampNeg) :: st) (I, J, S)) : qc_J F cells slots pc ls (.int i :: .ref t :: st) (I, J, S) := qj_zald cx hd hk ht hN hin k
theorem qw_iast {F : qc_F} {cc : ByteArray} {own nm : String} {rF rC rS rL cells slots pc : Nat} {ls : List (Option Value)} {st : List Value} {I I1 : Nat → Nat → Int32} {J : Nat → Nat → Int64} {S : qc_Sh} {t n1 : Nat} {i x : Int32} (cx : qc_X F cc own nm rF rC rS rL) (hd : decode cc pc = .ok (.iastore, 1)) (hk : S.2.1 t = 8) (ht : t < S.2.2.2) (hN : S.2.2.1 t = n1) (hin : qc_in i n1) (e : I1 = qc_u2 I t i.toNatClampNeg x) (k : qc_J F cells slots (pc + 1) ls st (I1, J, S)) : qc_J F cells slots pc ls (.int x :: .int i :: .ref t :: st) (I, J, S) := qj_iast cx hd hk ht hN hin (by rw [e] at k; exact k)
theorem qw_zast {F : qc_F} {cc : ByteArray} {own nm : String} {rF rC rS rL cells slots pc : Nat} {ls : List (Option Value)} {st : List Value} {I I1 : Nat → Nat → Int32} {J : Nat → Nat → Int64} {S : qc_Sh} {t n1 : Nat} {i x : Int32} (cx : qc_X F cc own nm rF rC rS rL) (hd : decode cc pc = .ok (.bastore, 1)) (hk : S.2.1 t = 9) (ht : t < S.2.2.2) (hN : S.2.2.1 t = n1) (hin : qc_in i n1) (e : I1 = qc_u2 I t i.toNatClampNeg (vp_nar .boolean x)) (k : qc_J F cells slots (pc + 1) ls st (I1, J, S)) : qc_J F cells slots pc ls (.int x :: .int i :: .ref t :: st) (I, J, S) := qj_zast cx hd hk ht hN hin (by rw [e] at k; exact k)
theorem qw_aald {F : qc_F} {cc : ByteArray} {own nm : String} {rF rC rS rL cells slots pc : Nat} {ls : List (Option Value)} {st : List Value} {I : Nat → Nat → Int32} {J : Nat → Nat → Int64} {S : qc_Sh} {t n1 kd t1 : Nat} {i : Int32} {ty : FieldType} (cx : qc_X F cc own nm rF rC rS rL) (hd : decode cc pc = .ok (.aaload, 1)) (hk : S.2.1 t = kd) (hkd : (kd = 10 ∧ ty = .object "QuietChannels$Image") ∨ (kd = 11 ∧ ty = .array .int)) (ht : t < S.2.2.2) (hN : S.2.2.1 t = n1) (hin : qc_in i n1) (hr : S.1 t i.toNatClampNeg = some t1) (k : qc_J F cells slots (pc + 1) ls (.ref t1 :: st) (I, J, S)) : qc_J F cells slots pc ls (.int i :: .ref t :: st) (I, J, S) := qj_aald cx hd hk hkd ht hN hin hr k
theorem qw_tald {F : qc_F} {cc : ByteArray} {own nm : String} {rF rC rS rL cells slots pc : Nat} {ls : List (Option Value)} {st : List Value} {I : Nat → Nat → Int32} {J : Nat → Nat → Int64} {S : qc_Sh} {i : Nat} {j : Int32} (cx : qc_X F cc own nm rF rC rS rL) (hd : decode cc pc = .ok (.iaload, 1)) (hi : i < 6) (hn : S.2.2.2 ≤ qc_RO) (hin : qc_in j 6) (k : qc_J F cells slots (pc + 1) ls (.int ((qc_sv i).getD j.toNatClampNeg 0) :: st) (I, J, S)) : qc_J F cells slots pc ls (.int j :: .ref (qc_RO + i) :: st) (I, J, S) := qj_tald cx hd hi hn hin k
theorem qw_iret {F : qc_F} {cc : ByteArray} {own nm : String} {rF rC rS rL cells slots pc : Nat} {ls : List (Option Value)} {I I1 : Nat → Nat → Int32} {J J1 : Nat → Nat → Int64} {S : qc_Sh} {mc ms : Nat} {x v : Int32} (cx : qc_X F cc own nm rF rC rS rL) (hz : qc_Z F (some .int) (some (.int v)) (I1, J1, S) mc ms) (hd : decode cc pc = .ok (.ireturn, 1))  (hc : cells ≤ mc) (hs : slots ≤ ms) (e1 : x = v) (e2 : I = I1) (e3 : J = J1) : qc_J F cells slots pc ls [.int x] (I, J, S) := by
  subst e1; subst e2; subst e3
  exact qj_iret (st := []) cx hz hd  hc hs
theorem qw_zret {F : qc_F} {cc : ByteArray} {own nm : String} {rF rC rS rL cells slots pc : Nat} {ls : List (Option Value)} {I I1 : Nat → Nat → Int32} {J J1 : Nat → Nat → Int64} {S : qc_Sh} {mc ms : Nat} {x v : Int32} (cx : qc_X F cc own nm rF rC rS rL) (hz : qc_Z F (some .boolean) (some (.int v)) (I1, J1, S) mc ms) (hd : decode cc pc = .ok (.ireturn, 1)) (hn : narrow .boolean (.int x) = .int x) (hc : cells ≤ mc) (hs : slots ≤ ms) (e1 : x = v) (e2 : I = I1) (e3 : J = J1) : qc_J F cells slots pc ls [.int x] (I, J, S) := by
  subst e1; subst e2; subst e3
  exact qj_zret (st := []) cx hz hd hn hc hs
theorem qw_lret {F : qc_F} {cc : ByteArray} {own nm : String} {rF rC rS rL cells slots pc : Nat} {ls : List (Option Value)} {I I1 : Nat → Nat → Int32} {J J1 : Nat → Nat → Int64} {S : qc_Sh} {mc ms : Nat} {x v : Int64} (cx : qc_X F cc own nm rF rC rS rL) (hz : qc_Z F (some .long) (some (.long v)) (I1, J1, S) mc ms) (hd : decode cc pc = .ok (.lreturn, 1))  (hc : cells ≤ mc) (hs : slots ≤ ms) (e1 : x = v) (e2 : I = I1) (e3 : J = J1) : qc_J F cells slots pc ls [.long x] (I, J, S) := by
  subst e1; subst e2; subst e3
  exact qj_lret (st := []) cx hz hd  hc hs
theorem qw_vret {F : qc_F} {cc : ByteArray} {own nm : String} {rF rC rS rL cells slots pc : Nat} {ls : List (Option Value)} {I I1 : Nat → Nat → Int32} {J J1 : Nat → Nat → Int64} {S : qc_Sh} {mc ms : Nat} (cx : qc_X F cc own nm rF rC rS rL) (hz : qc_Z F none none (I1, J1, S) mc ms) (hd : decode cc pc = .ok (.return_, 1)) (hc : cells ≤ mc) (hs : slots ≤ ms) (e2 : I = I1) (e3 : J = J1) : qc_J F cells slots pc ls [] (I, J, S) := by
  subst e2; subst e3
  exact qj_vret (st := []) cx hz hd hc hs
theorem qc_ent2 {l : Launch} {y : MethodName} {cc : ByteArray} {maxL : Nat} {ret : Option FieldType} {rF rL mc ms : Nat} {av : List Value} {h : qc_Pl} {r : Option Value} {h' : qc_Pl} (hy : plainName y.cls = true) (hlen : (qc_ent av).length ≤ maxL)
    (body : ∀ F : qc_F, F.2.2.2.2.2.2.2.2.2.2.2.2.2.2.1 ≤ qc_n h → qc_X F cc y.cls y.name rF mc ms rL → qc_Z F ret r h' mc ms → qc_J F 0 0 0 (qc_el maxL av) [] h) : qc_M l y cc maxL ret rF rL mc ms av h r h' := by
  intro D ca A ad0
  refine Met.ofW (cc := cc) (maxL := maxL) (ret := ret) hy rfl ?_
  intro p e s m args below meth c s₁ B hml hv
  obtain ⟨rfl, hw, hG⟩ := hv
  have hx := B.exec
  have hb := B.bytes
  have hr := B.returns
  have hts := atoms_spec (ws := .code y cc maxL ret :: qc_GW) B.pre
  have hown : s.vm.findClass y.cls = some m.cls := findClass_of_methodNamed B.named
  have hlocks := B.notSynchronized
  have hl := lv_entry (av.map (qc_rv ad0)) (n := maxL) (by rw [qc_sl_len]; exact hlen)
  rw [lg_entry_eq]
  generalize (lg_sl (av.map (qc_rv ad0)) ++ List.replicate (maxL - (lg_sl (av.map (qc_rv ad0))).length) Slot.unset).toArray = la at hl ⊢
  have key := body (p, l, e, (headSpec (.code y cc maxL ret :: qc_GW) ({ frames := rF, cells := mc, slots := ms, locals := rL } : Room)).room, s, m, (av.map (qc_rv ad0)).toArray, below, meth, c, maxL, D, ca, A, qc_n h, ad0, MQ below (qc_Q D ca A ad0 (qc_n h) r h') (av.map (qc_rv ad0)).toArray s mc ms A)
    (Nat.le_refl _) ⟨hx, hb, hml, hown, fun w hw => hts w (List.mem_cons_of_mem _ hw), hlocks, hG, ⟨Nat.le_refl _, rfl, rfl, Nat.le_refl _⟩, (name_of_methodNamed B.named B.method).1⟩ ⟨hr, rfl⟩
  refine key ad0 s.heap [] la hw va_S.rf (fun _ _ => rfl) ⟨hl.1, hl.2.1, by unfold qc_el; rw [List.length_append, List.length_replicate]; omega, fun i v hi => ?_⟩
  have h1 := qc_ent_in _ 0 (qc_ent_map (ad := ad0) _ _ _ (qc_el_in hi))
  rw [Nat.zero_add] at h1
  exact hl.2.2 _ h1
/-- fewer locals -/
def qc_sb : List (Option Value) → List (Option Value) → Prop
  | [], _ => True
  | none :: l, _ :: m => qc_sb l m
  | some v :: l, some w :: m => v = w ∧ qc_sb l m
  | _, _ => False
theorem qc_sb_ok : ∀ {l m : List (Option Value)}, qc_sb l m → ∀ (i : Nat) (v : Value), l[i]? = some (some v) → m[i]? = some (some v)
  | [], _, _, i, v, h => by simp at h
  | none :: l, [], hs, i, v, h => hs.elim
  | none :: l, _ :: m, hs, i, v, h => by
    cases i with
    | zero => simp at h
    | succ i => simp only [List.getElem?_cons_succ] at h ⊢; exact qc_sb_ok (l := l) (m := m) hs i v h
  | some w :: l, [], hs, i, v, h => hs.elim
  | some w :: l, none :: m, hs, i, v, h => hs.elim
  | some w :: l, some w' :: m, hs, i, v, h => by
    obtain ⟨rfl, hs⟩ := hs
    cases i with
    | zero => exact h
    | succ i => simp only [List.getElem?_cons_succ] at h ⊢; exact qc_sb_ok (l := l) (m := m) hs i v h
/-- the reference's shape -/
def kM (t : Nat) : Nat := [7, 8, 8, 9, 8, 8, 8, 8, 8, 8, 8, 8, 9, 8, 8, 8, 8, 8, 8, 8, 8, 8, 8, 8, 8].getD t 0
def nM (t : Nat) : Nat := [0, 700, 20, 11, 12, 12, 12, 12, 12, 12, 12, 18, 122, 79, 1659, 79, 300, 300, 300, 300, 300, 300, 300, 8, 79].getD t 0
def rM (t j : Nat) : Option Nat := if t = 0 then [none, some 1, none, some 2, some 3, some 4, some 5, some 6, some 7, some 8, some 9, some 10, some 11, some 12, none, none, none, none, none, none, none, none, none, none, none, some 13, some 14, some 15, none, none, none, none, none, none, some 16, some 17, some 18, some 19, some 20, some 21, some 22, none, none, some 23, none, some 24].getD j none else none
abbrev shM : qc_Sh := (rM, kM, nM, 25)
