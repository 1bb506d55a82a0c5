/-! THE JUDGEMENT: a frame over a pool -/
def qc_GW : List Cond := lw_tbl.filter goodWord
theorem qc_gw {w : Cond} (i : Nat) (h : lw_tbl[i]? = some w) (hg : goodWord w = true) : w ∈ qc_GW := List.mem_filter.mpr ⟨List.mem_of_getElem? h, hg⟩
theorem qc_good : ∀ w ∈ qc_GW, goodWord w = true := fun _ h => (List.mem_filter.mp h).2
theorem qc_goodIn {w : Cond} (h : w ∈ qc_GW) : GoodIn qc_GW (w :: qc_GW) := fun x hx => (List.mem_cons.mp hx).elim (fun e => by subst e; exact ⟨h, good_of_word (qc_good _ h)⟩) (fun hx => ⟨hx, good_of_word (qc_good _ hx)⟩)
/-- the arrays' classes: kinds 8 .. 11 -/
abbrev qc_tys (ca : Nat → ClassId) : List (ClassId × FieldType) := [(ca 8, .int), (ca 9, .boolean), (ca 10, .object "QuietChannels$Image"), (ca 11, .array .int)]
def qc_fn : List (String × Nat × String × String × String × String) := [("QuietChannels$Scene", 106, "QuietChannels", "ORDER_PLACE", "[I", "QuietChannels"), ("QuietChannels$Products", 76, "QuietChannels", "TIMES_A", "[I", "QuietChannels"), ("QuietChannels$Products", 79, "QuietChannels", "TIMES_B", "[I", "QuietChannels"), ("QuietChannels$Products", 82, "QuietChannels", "TIMES_C", "[I", "QuietChannels"), ("QuietChannels$Products", 115, "QuietChannels", "WEIGHT_B", "[I", "QuietChannels"), ("QuietChannels$Products", 118, "QuietChannels", "WEIGHT_C", "[I", "QuietChannels"), ("QuietChannels$Products", 124, "QuietChannels", "ORDER_PLACE", "[I", "QuietChannels")]
def qc_mn : List (String × Nat × MethodName × String) := [("QuietChannels", 25, yX4_init, "QuietChannels"), ("QuietChannels", 35, yX2_init, "QuietChannels"), ("QuietChannels", 42, yX5_init, "QuietChannels"), ("QuietChannels$History", 21, yX1_init, "QuietChannels"), ("QuietChannels", 56, yX1_init, "QuietChannels"), ("QuietChannels$Reader", 13, yX4_init, "QuietChannels")]
/-- the static rows of the class: token qc_RO + i -/
def qc_sn (i : Nat) : String := ["TIMES_A", "TIMES_B", "TIMES_C", "WEIGHT_B", "WEIGHT_C", "ORDER_PLACE"].getD i ""
def qc_sv (i : Nat) : List Int32 := [[1, 1, 2, 1, 3, 2], [1, -1, -1, 1, -2, 1], [0, 0, 0, -1, 0, -2], [1, 1, 1, 1, 2, 1], [0, 0, 0, 1, 0, 2], [0, 0, 1, 1, 2, 2]].getD i []
/-- texts: 0 the class's words for users, 1 .. for what, 2 the reference's words of the language -/
def qc_tl : List Nat := [12, 12, 62]
def qc_tb : List (List Int32) := [[110, 111, 32, 115, 117, 99, 104, 32, 117, 115, 101, 114], [110, 111, 32, 115, 117, 99, 104, 32, 119, 104, 97, 116], [98, 97, 110, 100, 32, 103, 117, 97, 114, 100, 32, 115, 112, 97, 99, 101, 32, 111, 114, 100, 101, 114, 115, 32, 108, 111, 115, 115, 32, 117, 115, 101, 114, 32, 102, 105, 120, 101, 100, 32, 98, 108, 111, 99, 107, 32, 108, 105, 110, 107, 32, 115, 108, 111, 116, 115, 32, 115, 101, 101, 100, 32]]
/-- a text, as the tables have it -/
def qc_Tx (A : Nat → Prop) (ad : Nat → Nat) (U : State) (H : Heap) (i : Nat) : Prop := va_O "java/lang/String" (ad (qc_RO + 10 + i)) A U H ∧ va_OF "java/lang/String" "coder" "B" (.int 0) (ad (qc_RO + 10 + i)) A U H ∧ va_OF "java/lang/String" "value" "[B" (.ref (ad (qc_RO + 20 + i))) (ad (qc_RO + 10 + i)) A U H ∧ va_T .byte (ad (qc_RO + 20 + i)) (qc_tl.getD i 0) (fun j => .int ((qc_tb.getD i []).getD j 0)) A U H
def qc_to (i : Nat) : String × Nat × String := [("QuietChannels", 157, "no such user"), ("QuietChannels", 176, "no such what"), ("QuietChannelsModel", 135, "band guard space orders loss user fixed block link slots seed ")].getD i ("", 0, "")
def qc_Ts (A : Nat → Prop) (ad : Nat → Nat) (U : State) : Prop := (∀ i, i < 3 → qc_Tx A ad U U.heap i ∧ vk_R (qc_to i).1 (qc_to i).2.1 (qc_to i).2.2 (ad (qc_RO + 10 + i)) U) ∧ va_Z "java/lang/String" "COMPACT_STRINGS" "Z" (.int 1) A U U.heap ∧ (va_Z "jdk/internal/util/Preconditions" "SIOOBE_FORMATTER" "Ljava/util/function/BiFunction;" .null A U U.heap ∨ va_Z "jdk/internal/util/Preconditions" "SIOOBE_FORMATTER" "Ljava/util/function/BiFunction;" (.ref (ad (qc_RO + 29))) A U U.heap)
theorem qc_AOA_moved {u U : State} (hvm : u.vm.Alike U.vm) (h : (Cond.arrayOver (.array .int)).before #[] u = true) : (Cond.arrayOver (.array .int)).before #[] U = true := by
  unfold Cond.before Cond.holds at h ⊢
  simp only [Cond.value] at h ⊢
  rw [beq_iff_eq] at h ⊢
  obtain ⟨comp, hc, h⟩ := Option.bind_eq_some_iff.mp h
  obtain ⟨c, hi, h⟩ := Option.bind_eq_some_iff.mp h
  obtain ⟨k, hk, h⟩ := Option.map_eq_some_iff.mp h
  obtain ⟨k', hk', he⟩ := hvm.2.2 _ _ hk
  have hkind : k'.kind = k.kind := by rw [he]
  refine Option.bind_eq_some_iff.mpr ⟨comp, by rw [hvm.findClass]; exact hc, Option.bind_eq_some_iff.mpr ⟨c, ?_, Option.map_eq_some_iff.mpr ⟨k', hk', ?_⟩⟩⟩
  · have e1 := va_idx_bare U.vm comp
    have e2 := va_idx_bare u.vm comp
    have e3 : U.vm.bare = u.vm.bare := by first | exact hvm.bare_eq | exact hvm.bare_eq.symm
    rw [e3] at e1
    exact (e1.symm.trans e2).trans hi
  · rw [hkind, hvm.findClass]
    exact h
def qc_Gd (D : va_G) (ca : Nat → ClassId) (A : Nat → Prop) (ad : Nat → Nat) (U : State) : Prop :=
  va_K D vwCl (qc_tys ca) U ∧ (∀ q ∈ qc_fn, va_Nw (.fieldLinkNest q.1 q.2.1 q.2.2.1 q.2.2.2.1 q.2.2.2.2.1 q.2.2.2.2.2) U) ∧ (∀ q ∈ qc_mn, va_Nw (.methodLinkNest q.1 q.2.1 q.2.2.1 q.2.2.2) U) ∧
  (∀ i, i < 6 → va_Z "QuietChannels" (qc_sn i) "[I" (.ref (ad (qc_RO + i))) A U U.heap ∧ va_T .int (ad (qc_RO + i)) 6 (fun j => .int ((qc_sv i).getD j 0)) A U U.heap) ∧ (∀ q : Nat, U.heap.size ≤ q → A q) ∧ va_AO "QuietChannels$Image" U ∧ qc_Ts A ad U ∧ (Cond.arrayOver (.array .int)).before #[] U = true
theorem qc_Gd.next {D : va_G} {ca : Nat → ClassId} {A : Nat → Prop} {ad ad' : Nat → Nat} {s U : State} (h : qc_Gd D ca A ad s) (hW : s.WarmedH U.vm) (hz : s.heap.size ≤ U.heap.size) (hk : ∀ q : Nat, q < s.heap.size → ¬ A q → U.heap[q]? = s.heap[q]?) (ha : ∀ i, i < 30 → ad' (qc_RO + i) = ad (qc_RO + i)) : qc_Gd D ca A ad' U := by
  obtain ⟨h1, h2, h3, h4, h5, h6, ⟨h7, h8, h9⟩, h10⟩ := h
  refine ⟨va_K.moved hW.alike h1, fun q hq => va_Nw.warmF hW (h2 q hq), fun q hq => va_Nw.warmM hW (h3 q hq), fun i hi => ?_, fun q hq => h5 q (Nat.le_trans hz hq), h6.moved hW.alike, ⟨fun i hi => ?_, (h8.moved hW.alike).kept hk, ?_⟩, qc_AOA_moved hW.alike h10⟩
  · rw [ha i (by omega)]
    exact ⟨((h4 i hi).1.moved hW.alike).kept hk, ((h4 i hi).2.moved hW.alike).kept hk⟩
  · have e1 : ad' (qc_RO + 10 + i) = ad (qc_RO + 10 + i) := by rw [Nat.add_assoc]; exact ha (10 + i) (by omega)
    have e2 : ad' (qc_RO + 20 + i) = ad (qc_RO + 20 + i) := by rw [Nat.add_assoc]; exact ha (20 + i) (by omega)
    obtain ⟨⟨g1, g2, g3, g4⟩, g5⟩ := h7 i hi
    unfold qc_Tx
    rw [e1, e2]
    exact ⟨⟨(g1.moved hW.alike).kept hk, (g2.moved hW.alike).kept hk, (g3.moved hW.alike).kept hk, (g4.moved hW.alike).kept hk⟩, g5.warm hW⟩
  · rw [ha 29 (by omega)]
    exact h9.elim (fun z => Or.inl ((z.moved hW.alike).kept hk)) (fun z => Or.inr ((z.moved hW.alike).kept hk))
def qc_wk (D : va_G) (ca : Nat → ClassId) (A : Nat → Prop) (ad : Nat → Nat) (h : qc_Pl) (H : Heap) : Prop := va_P D vwCl (qc_W ca ad h) H ∧ va_D A (qc_W ca ad h)
/-- a frame's fixed part: machine, room, start, method, code, number of locals, classes, what may change, tokens and addresses at the entry, the end that is wanted -/
abbrev qc_F : Type := Program × Launch × Env × Room × State × MethodId × Array Value × List Frame × Method × Code × Nat × va_G × (Nat → ClassId) × (Nat → Prop) × Nat × (Nat → Nat) × (State → Prop)
def qc_J (F : qc_F) (cells slots pc : Nat) (ls : List (Option Value)) (st : List Value) (h : qc_Pl) : Prop := match F with
  | (p, l, e, R, s, m, args, below, meth, c, nL, D, ca, A, n0, ad0, Q) => ∀ (ad : Nat → Nat) (H : Heap) (locs : List Loc) (la : Array Slot), qc_wk D ca A ad h H → va_S A s.heap H locs → (∀ u, ¬ (n0 ≤ u ∧ u < qc_n h) → ad u = ad0 u) → qc_lv la nL ad ls → W p l e R s m args below meth c H locs cells slots Q (F0 m pc la (st.map (qc_rv ad)))
/-- what is known in a frame -/
def qc_X (F : qc_F) (cc : ByteArray) (own nm : String) (rF rC rS rL : Nat) : Prop := match F with
  | (p, _, _, R, s, m, args, _, meth, c, nL, D, ca, A, _, ad0, _) => p.tables.exec = Jvm.exec ∧ c.code = cc ∧ c.maxLocals = nL ∧ s.vm.findClass own = some m.cls ∧ (∀ w ∈ qc_GW, w.before args s = true) ∧ meth.locks = false ∧ qc_Gd D ca A ad0 s ∧ (rF ≤ R.frames ∧ rC = R.cells ∧ rS = R.slots ∧ rL ≤ R.locals) ∧ meth.name = nm
def qc_P (D : va_G) (ca : Nat → ClassId) (A : Nat → Prop) (ad0 : Nat → Nat) (av : List Value) (h : qc_Pl) : Array Value → State → Prop := fun v U => v = (av.map (qc_rv ad0)).toArray ∧ qc_wk D ca A ad0 h U.heap ∧ qc_Gd D ca A ad0 U
def qc_Q (D : va_G) (ca : Nat → ClassId) (A : Nat → Prop) (ad0 : Nat → Nat) (n0 : Nat) (r : Option Value) (h' : qc_Pl) : Array Value → State → Outcome → State → Prop := fun _ st o t => ∃ ad' : Nat → Nat, (o = .returned (r.map (qc_rv ad')) ∧ qc_wk D ca A ad' h' t.heap ∧ ∀ u, ¬ (n0 ≤ u ∧ u < qc_n h') → ad' u = ad0 u) ∧ va_F A st t
/-- a method meets: from the pool h with arguments av it answers r and leaves h' -/
def qc_M (l : Launch) (y : MethodName) (cc : ByteArray) (maxL : Nat) (ret : Option FieldType) (rF rL mc ms : Nat) (av : List Value) (h : qc_Pl) (r : Option Value) (h' : qc_Pl) : Prop :=
  ∀ (D : va_G) (ca : Nat → ClassId) (A : Nat → Prop) (ad0 : Nat → Nat), Met l y (.code y cc maxL ret :: qc_GW) ({ frames := rF, cells := mc, slots := ms, locals := rL } : Room) (qc_P D ca A ad0 av h) (qc_Q D ca A ad0 (qc_n h) r h') mc ms A
/-- the end that is wanted -/
def qc_Z (F : qc_F) (ret : Option FieldType) (r : Option Value) (h' : qc_Pl) (mc ms : Nat) : Prop := match F with
  | (_, _, _, _, s, _, args, below, meth, _, _, D, ca, A, n0, ad0, Q) => meth.sig.returnType = ret ∧ Q = MQ below (qc_Q D ca A ad0 n0 r h') args s mc ms A
theorem qc_ent_in {i : Nat} {v : Value} : ∀ (av : List Value) (k : Nat), (qc_ent av)[i]? = some (some v) → (k + i, v) ∈ lv_args k av := by
  intro av
  induction av generalizing i with
  | nil => intro k h; simp [qc_ent] at h
  | cons a t ih =>
    intro k h
    unfold qc_ent at h
    unfold lv_args
    by_cases hc : a.category = 2
    · rw [if_pos hc] at h
      rw [if_pos hc]
      match i, h with
      | 0, h => simp at h; subst h; exact List.mem_cons_self
      | 1, h => simp at h
      | i + 2, h =>
        simp only [List.getElem?_cons_succ] at h
        have := ih (k + 2) h
        rw [show k + 2 + i = k + (i + 2) by omega] at this
        exact List.mem_cons_of_mem _ this
    · rw [if_neg hc] at h
      rw [if_neg hc]
      match i, h with
      | 0, h => simp at h; subst h; exact List.mem_cons_self
      | i + 1, h =>
        simp only [List.getElem?_cons_succ] at h
        have := ih (k + 1) h
        rw [show k + 1 + i = k + (i + 1) by omega] at this
        exact List.mem_cons_of_mem _ this
def qc_el (maxL : Nat) (av : List Value) : List (Option Value) := qc_ent av ++ List.replicate (maxL - (qc_ent av).length) none
theorem qc_ent_map {ad : Nat → Nat} : ∀ (av : List Value) (i : Nat) (v : Value), (qc_ent av)[i]? = some (some v) → (qc_ent (av.map (qc_rv ad)))[i]? = some (some (qc_rv ad v)) := by
  intro av
  induction av with
  | nil => intro i v h; simp [qc_ent] at h
  | cons a t ih =>
    intro i v h
    rw [List.map_cons]
    unfold qc_ent at h ⊢
    rw [qc_rv_cat]
    by_cases hc : a.category = 2
    · rw [if_pos hc] at h ⊢
      match i, h with
      | 0, h => simp at h; subst h; rfl
      | 1, h => simp at h
      | i + 2, h =>
        simp only [List.getElem?_cons_succ] at h ⊢
        exact ih i v h
    · rw [if_neg hc] at h ⊢
      match i, h with
      | 0, h => simp at h; subst h; rfl
      | i + 1, h =>
        simp only [List.getElem?_cons_succ] at h ⊢
        exact ih i v h
theorem qc_el_in {maxL : Nat} {av : List Value} {i : Nat} {v : Value} (h : (qc_el maxL av)[i]? = some (some v)) : (qc_ent av)[i]? = some (some v) := by
  unfold qc_el at h
  by_cases hl : i < (qc_ent av).length
  · rw [List.getElem?_append_left hl] at h
    exact h
  · rw [List.getElem?_append_right (by omega)] at h
    have := List.mem_of_getElem? h
    simp at this
theorem qc_sl_len (ad : Nat → Nat) : ∀ av : List Value, (lg_sl (av.map (qc_rv ad))).length = (qc_ent av).length := by
  intro av
  induction av with
  | nil => rfl
  | cons a t ih =>
    have e : lg_sl ((a :: t).map (qc_rv ad)) = (if (qc_rv ad a).category = 2 then [Slot.val (qc_rv ad a), .second] else [Slot.val (qc_rv ad a)]) ++ lg_sl (t.map (qc_rv ad)) := by
      simp [lg_sl]
    rw [e, List.length_append, ih, qc_rv_cat]
    rw [show qc_ent (a :: t) = if a.category = 2 then some a :: none :: qc_ent t else some a :: qc_ent t from rfl]
    by_cases hc : a.category = 2
    · rw [if_pos hc, if_pos hc]; simp; omega
    · rw [if_neg hc, if_neg hc]; simp; omega
/-- a method's contract out of a walk of its body -/
theorem qc_enter {l : Launch} {y : MethodName} {cc : ByteArray} {maxL : Nat} {ret : Option FieldType} {rF rL mc ms : Nat} {av : List Value} {h : qc_Pl} {r : Option Value} {h' : qc_Pl} (hy : plainName y.cls = true) (hlen : (qc_ent av).length ≤ maxL)
    (body : ∀ F : qc_F, qc_X F cc y.cls y.name rF mc ms rL → qc_Z F ret r h' mc ms → qc_J F 0 0 0 (qc_el maxL av) [] h) : qc_M l y cc maxL ret rF rL mc ms av h r h' := by
  intro D ca A ad0
  refine Met.ofW (cc := cc) (maxL := maxL) (ret := ret) hy rfl ?_
  intro p e s m args below meth c s₁ B hml hv
  obtain ⟨rfl, hw, hG⟩ := hv
  have hx := B.exec
  have hb := B.bytes
  have hr := B.returns
  have hts := atoms_spec (ws := .code y cc maxL ret :: qc_GW) B.pre
  have hown : s.vm.findClass y.cls = some m.cls := findClass_of_methodNamed B.named
  have hlocks := B.notSynchronized
  have hl := lv_entry (av.map (qc_rv ad0)) (n := maxL) (by rw [qc_sl_len]; exact hlen)
  rw [lg_entry_eq]
  generalize (lg_sl (av.map (qc_rv ad0)) ++ List.replicate (maxL - (lg_sl (av.map (qc_rv ad0))).length) Slot.unset).toArray = la at hl ⊢
  have key := body (p, l, e, (headSpec (.code y cc maxL ret :: qc_GW) ({ frames := rF, cells := mc, slots := ms, locals := rL } : Room)).room, s, m, (av.map (qc_rv ad0)).toArray, below, meth, c, maxL, D, ca, A, qc_n h, ad0, MQ below (qc_Q D ca A ad0 (qc_n h) r h') (av.map (qc_rv ad0)).toArray s mc ms A)
    ⟨hx, hb, hml, hown, fun w hw => hts w (List.mem_cons_of_mem _ hw), hlocks, hG, ⟨Nat.le_refl _, rfl, rfl, Nat.le_refl _⟩, (name_of_methodNamed B.named B.method).1⟩ ⟨hr, rfl⟩
  refine key ad0 s.heap [] la hw va_S.rf (fun _ _ => rfl) ⟨hl.1, hl.2.1, by unfold qc_el; rw [List.length_append, List.length_replicate]; omega, fun i v hi => ?_⟩
  have h1 := qc_ent_in _ 0 (qc_ent_map (ad := ad0) _ _ _ (qc_el_in hi))
  rw [Nat.zero_add] at h1
  exact hl.2.2 _ h1
