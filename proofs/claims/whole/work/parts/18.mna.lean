/-! new int[8][700], by the model's own words: a row of my own (nothing of Shelf42) -/
theorem qm_new {E : CtlPost} {e : Env} {d : Bool} {acts : List Action} {S : State} {c comp : ClassId} {k : Class} {ty : FieldType} {n : Nat} {v : Value} {Q : Addr → Pre} (hk : S.vm.classes[c]? = some k) (hkind : k.kind = .array comp ty) (hv : fits ty v = true) (hd : v.isDefault = true) (hl : n ≤ e.platform.arrayLengthLimit) (hh : n * componentBytes ty ≤ e.platform.maxHeapBytes) (hc : S.heap.size < e.platform.maxCells) (hs : S.slotsUsed + n ≤ e.platform.maxSlots)
    (h : Q S.heap.size d acts (S.pushCell { cls := c, slots := Array.replicate n v, vm := .none })) : wp (Jvm.newArray c n v) Q E e d acts S := by
  have hf : ∀ i w, (Array.replicate n v)[i]? = some w → S.fitsSlot c .none i w = true := by
    intro i w hw
    rw [Array.getElem?_replicate] at hw
    by_cases hi : i < n
    · rw [if_pos hi] at hw
      cases hw
      simp [State.fitsSlot, State.slotType?, hk, hkind, hv]
    · rw [if_neg hi] at hw
      cases hw
  have ha : allocActs (Array.replicate n v) S.heap.size acts = acts := by
    unfold allocActs
    refine if_pos ?_
    rw [Array.all_replicate]
    by_cases h0 : n = 0
    · rw [if_pos h0]
    · rw [if_neg h0]; exact hd
  have g1 : ¬ n > e.platform.arrayLengthLimit := Nat.not_lt.mpr hl
  have g2 : ¬ n * componentBytes ty > e.platform.maxHeapBytes := Nat.not_lt.mpr hh
  have g3 : ¬ n > e.platform.maxSlots := by omega
  simp only [Jvm.newArray, Jvm.arrayFits, wp_bind', Jvm.W.ask, Jvm.W.ite, wp_pure', Jvm.W.theClass, hk, Option.some.injEq, exists_eq_left', hkind, if_neg g1, if_neg g2, if_neg g3, Jvm.W.alloc, Array.size_replicate, ha]
  exact ⟨hc, hs, hf, h⟩
theorem qm_row {E : CtlPost} {e : Env} {d : Bool} {acts : List Action} {S : State} {c comp : ClassId} {k : Class} {n : Int32} {Q : Addr → Pre} (hk : S.vm.classes[c]? = some k) (hkind : k.kind = .array comp .int) (hn : ¬ n < 0) (hl : n.toNatClampNeg ≤ e.platform.arrayLengthLimit) (hh : n.toNatClampNeg * 4 ≤ e.platform.maxHeapBytes) (hc : S.heap.size < e.platform.maxCells) (hs : S.slotsUsed + n.toNatClampNeg ≤ e.platform.maxSlots)
    (h : Q S.heap.size d acts (S.pushCell { cls := c, slots := Array.replicate n.toNatClampNeg (.int 0), vm := .none })) : wp (multianewarray.make c [n]) Q E e d acts S := by
  unfold multianewarray.make
  simp only [wp_bind', Jvm.W.ite, if_neg hn, wp_pure', Jvm.W.theClass, hk, Option.some.injEq, exists_eq_left', hkind]
  exact qm_new hk hkind rfl rfl hl hh hc hs h
theorem qm_push_old {S : State} {x : Cell} {a : Nat} (h : a < S.heap.size) : (S.pushCell x).heap[a]? = S.heap[a]? := by
  show (S.heap.push x)[a]? = _
  rw [Array.getElem?_push, if_neg (by omega)]
theorem qm_push_new {S : State} {x : Cell} : (S.pushCell x).heap[S.heap.size]? = some x := by
  show (S.heap.push x)[S.heap.size]? = _
  rw [Array.getElem?_push, if_pos rfl]
/-- what stands when i of the eight rows are there -/
def qm_At (p : Program) (l : Launch) (e : Env) (R : Room) (s : State) (m : MethodId) (args : Array Value) (below : List Frame) (meth : Method) (c : Code) (H : Heap) (locs : List Loc) (cells slots : Nat) (v1 : Vm) (cA comp : ClassId) (i : Nat) (F : State) : Prop :=
  F.vm = v1 ∧ (∃ J : List Loc, Stand p l e R s m args below meth c F (locs ++ J) (cells + (1 + i)) (slots + (8 + 700 * i)) ∧ ∀ x ∈ J, s.heap.size ≤ x.base) ∧ F.heap.size = H.size + 1 + i ∧ (∀ x : Nat, x < H.size → F.heap[x]? = H[x]?) ∧
    F.heap[H.size]? = some (arrV cA 8 (fun j => if j < i then .ref (H.size + 1 + j) else .null)) ∧ ∀ j : Nat, j < i → F.heap[H.size + 1 + j]? = some (arrV comp 700 (fun _ => .int 0))
theorem qm_next {p : Program} {l : Launch} {e : Env} {R : Room} {s : State} {m : MethodId} {args : Array Value} {below : List Frame} {meth : Method} {c : Code} {H : Heap} {locs : List Loc} {cells slots : Nat} {v1 : Vm} {cA comp : ClassId} {i : Nat} {F : State} (hH : s.heap.size ≤ H.size) (h : qm_At p l e R s m args below meth c H locs cells slots v1 cA comp i F) :
    qm_At p l e R s m args below meth c H locs cells slots v1 cA comp (i + 1) ((F.pushCell { cls := comp, slots := Array.replicate 700 (.int 0), vm := .none }).setCell H.size ((arrV cA 8 (fun j => if j < i then .ref (H.size + 1 + j) else .null)).setSlot i (.ref F.heap.size))) := by
  obtain ⟨h1, ⟨J, X, hJ⟩, h3, h4, h5, h6⟩ := h
  have hlt : H.size < F.heap.size := by omega
  have e5 : (F.pushCell { cls := comp, slots := Array.replicate 700 (.int 0), vm := .none }).heap[H.size]? = some (arrV cA 8 (fun j => if j < i then .ref (H.size + 1 + j) else .null)) := (qm_push_old hlt).trans h5
  have hlt2 : H.size < (F.pushCell { cls := comp, slots := Array.replicate 700 (.int 0), vm := .none }).heap.size := by rw [size_pushCell]; omega
  refine ⟨h1, ⟨J ++ [⟨H.size, i⟩], ?_, ?_⟩, ?_, ?_, ?_, ?_⟩
  · have X2 := (X.pushed { cls := comp, slots := Array.replicate 700 (.int 0), vm := .none }).stored e5 i (.ref F.heap.size)
    rw [List.append_assoc] at X2
    have z : (Array.replicate 700 (Value.int 0)).size = 700 := Array.size_replicate
    have a1 : cells + (1 + i) + 1 = cells + (1 + (i + 1)) := by omega
    have a2 : slots + (8 + 700 * i) + (Array.replicate 700 (Value.int 0)).size = slots + (8 + 700 * (i + 1)) := by rw [z]; omega
    rw [← a1, ← a2]
    exact X2
  · intro x hx
    rcases List.mem_append.mp hx with q | q
    · exact hJ x q
    · rw [List.mem_singleton.mp q]
      exact hH
  · rw [size_setCell, size_pushCell, h3]; omega
  · intro x hx
    rw [heapAt_setCell_ne _ (show H.size ≠ x by omega), qm_push_old (show x < F.heap.size by omega)]
    exact h4 x hx
  · rw [heapAt_setCell_self _ hlt2, arrV_store]
    refine congrArg (fun f => some (arrV cA 8 f)) (funext fun j => ?_)
    unfold updV
    dsimp only
    by_cases e1 : j = i
    · rw [if_pos e1, if_pos (by omega), h3, e1]
    · rw [if_neg e1]
      by_cases e2 : j < i
      · rw [if_pos e2, if_pos (by omega)]
      · rw [if_neg e2, if_neg (by omega)]
  · intro j hj
    rw [heapAt_setCell_ne _ (show H.size ≠ H.size + 1 + j by omega)]
    by_cases e1 : j < i
    · rw [qm_push_old (show H.size + 1 + j < F.heap.size by omega)]
      exact h6 j e1
    · have e2 : H.size + 1 + j = F.heap.size := by omega
      rw [e2, qm_push_new, arrV_new]
/-- one instruction that ends well, its state known by a property alone -/
theorem qm_instr {p : Program} {e : Env} {below : List Frame} {S : State} {f : JFrame} {c : Code} {i : Instr} {len : Nat} {P : State → Prop} {Q : State → Prop} (h : At S f.method c below) (hd : decode c.code f.pc = .ok (i, len)) (hw : wpRun (p.tables.exec i) (fun _ s₁ _ => P s₁) (fun _ _ _ => False) e (S.setTop f))
    (hk : ∀ s₁, P s₁ → ∃ t, (∀ acts, Steps p.tables e below (afterInstr e len (.ok () s₁ acts)).1 t) ∧ Q t) : ∃ t, Steps p.tables e below (S.setTop f) t ∧ Q t := by
  have h1 := (wpRun_iff_run _ _ _ _ _).mp hw
  cases hr : (p.tables.exec i).run e (S.setTop f) with
  | ok a s₁ acts =>
    rw [hr] at h1
    obtain ⟨t, h2, h3⟩ := hk s₁ h1
    refine ⟨t, Steps.instr h ?_, h3⟩
    rw [hd]
    refine (wpRun_iff_run _ _ _ _ _).mpr ?_
    rw [hr]
    exact h2
  | ctl x s₁ acts =>
    rw [hr] at h1
    cases x <;> exact h1.elim
theorem qa_mnaW {p : Program} {l : Launch} {e : Env} {R : Room} {s : State} {m : MethodId} {args : Array Value} {below : List Frame} {meth : Method} {c : Code} {H : Heap} {locs : List Loc} {cells slots : Nat} {Q : State → Prop} {cc : ByteArray} {pc : Nat} {ls : Array Slot} {rest : List Value} {own : String} {index : Nat} (hexec : p.tables.exec = Jvm.exec) (hb : c.code = cc) (hown : s.vm.findClass own = some m.cls) (hclink : (Cond.classLink own index "[[I").before args s = true) (hover : (Cond.arrayOver (.array .int)).before args s = true) (harr : (Cond.arrayClass .int).before args s = true) (hcells : cells + 9 ≤ R.cells) (hslots : slots + 5608 ≤ R.slots) (hdg : decode cc pc = .ok (.multianewarray index 2, 4))
    (kk : ∀ (cA comp : ClassId) (H1 : Heap), s.vm.findClass "[[I" = some cA → s.vm.findClass "[I" = some comp → H1.size = H.size + 9 → (∀ x : Nat, x < H.size → H1[x]? = H[x]?) → H1[H.size]? = some (arrV cA 8 (fun j => .ref (H.size + 1 + j))) → (∀ j : Nat, j < 8 → H1[H.size + 1 + j]? = some (arrV comp 700 (fun _ => .int 0))) → W p l e R s m args below meth c H1 locs (cells + 9) (slots + 5608) Q (F0 m (pc + 4) ls (.ref H.size :: rest))) : W p l e R s m args below meth c H locs cells slots Q (F0 m pc ls (.int 700 :: .int 8 :: rest)) := by
  intro T hT X
  subst hT
  subst hb
  have hpl : e.platform.magicAccessors = ({} : Platform).magicAccessors := by rw [X.admits.platform]
  obtain ⟨comp, cA, kA, hcomp, -, hkA, hkindA, hnameA⟩ := arrayOverA_spec hover
  obtain ⟨cI, kI, cP, hnameI, hkI, hkindI⟩ := Cond.arrayClass_spec harr
  have eI : cI = comp := Option.some.inj (hnameI.symm.trans hcomp)
  subst eI
  have hnA : s.vm.findClass "[[I" = some cA := hnameA
  have hnI : s.vm.findClass "[I" = some cI := hnameI
  obtain ⟨cc', hfcc, hcl⟩ := Cond.classLink_spec hown hclink e.platform hpl
  have eA : cc' = cA := Option.some.inj (hfcc.symm.trans hnA)
  subst eA
  obtain ⟨hg1, hwarm1, hready1⟩ := State.classEntry (e := e) X.warmed hcl
  generalize hv1 : T.vm.noted m.cls index (.cls cc') = v1 at hg1 hwarm1 hready1
  have hsz : v1.classes.size ≤ T.vm.classes.size := by rw [← hv1]; no_record
  have hal : s.vm.Alike v1 := hwarm1.alike
  obtain ⟨kA1, hkA1, heA⟩ := hal.2.2 _ _ hkA
  obtain ⟨kI1, hkI1, heI⟩ := hal.2.2 _ _ hkI
  have hkindA1 : kA1.kind = .array cI (.array .int) := by rw [heA]; exact hkindA
  have hkindI1 : kI1.kind = .array cP .int := by rw [heI]; exact hkindI
  have X1 := X.noted hwarm1
  have hlim := Launch.admits_arrayLengthLimit X.admits
  have hmax := Launch.admits_maxHeapBytes X.admits
  have e8 : (8 : Int32).toNatClampNeg = 8 := rfl
  have e7 : (700 : Int32).toNatClampNeg = 700 := rfl
  have n8 : ¬ (8 : Int32) < 0 := by decide
  have n7 : ¬ (700 : Int32) < 0 := by decide
  have hgrow : s.heap.size ≤ T.heap.size := X.heapGrown
  have h0 : qm_At p l e R s m args below meth c T.heap locs cells slots v1 cc' cI 0 ((T.setVm v1).pushCell { cls := cc', slots := Array.replicate 8 .null, vm := .none }) := by
    refine ⟨rfl, ⟨[], ?_, fun x hx => by cases hx⟩, ?_, ?_, ?_, fun j hj => by omega⟩
    · have X2 := X1.pushed { cls := cc', slots := Array.replicate 8 .null, vm := .none }
      rw [List.append_nil]
      exact X2
    · rw [size_pushCell]
      rfl
    · intro x hx
      exact qm_push_old (S := T.setVm v1) hx
    · refine (qm_push_new (S := T.setVm v1)).trans ?_
      rw [arrV_new]
      exact congrArg some (arrV_congr (fun j hj => rfl))
  refine qm_instr (S := T) (P := fun s₁ => ∃ F, qm_At p l e R s m args below meth c T.heap locs cells slots v1 cc' cI 8 F ∧ s₁ = F.setTop (F0 m pc ls (.ref T.heap.size :: rest))) (f := F0 m pc ls (.int 700 :: .int 8 :: rest)) X.here hdg ?_ ?_
  · rw [hexec]
    show wp (multianewarray.sem index 2) _ _ _ _ _ _
    unfold multianewarray.sem
    rw [wp_bind', Jvm.W.resolveClassAt_transfer (s := T.setTop _) (State.method?_setTop _ X.here.top) hg1 hready1 hsz]
    rw [Jvm.W.resolveClassAt_ready (s := (T.setTop (F0 m pc ls (.int 700 :: .int 8 :: rest))).setVm v1) (m := m) (index := index) (c := cc') (State.method?_setTop (s := T.setVm v1) (F0 m pc ls (.int 700 :: .int 8 :: rest)) X.here.top) hready1]
    rw [wp_bind']
    refine (popN_top (s := T.setVm v1) (f := F0 m pc ls (.int 700 :: .int 8 :: rest)) (args := [.int 8, .int 700]) (rest := rest) X.here.top rfl).mpr ?_
    simp only [List.mapM_cons, List.mapM_nil, wp_bind', wp_pure', pure_bind]
    have r0 := X.roomAbove hcells hslots
    unfold multianewarray.make
    simp only [wp_bind', Jvm.W.ite, if_neg n8, wp_pure', Jvm.W.theClass, State.vm_setTop, State.vm_setVm, hkA1, Option.some.injEq, exists_eq_left', hkindA1, e8]
    refine qm_new (S := (T.setVm v1).setTop (F0 m pc ls rest)) hkA1 hkindA1 rfl rfl (by rw [hlim]; decide) (by rw [hmax]; decide) (show T.heap.size < _ by omega) (show T.slotsUsed + 8 ≤ _ by omega) ?_
    rw [if_neg (by decide), wp_bind', Std.Legacy.Range.forIn_eq_forIn_range']
    refine wp_forIn_inv (fun xs s' => ∃ (i : Nat) (F : State), i ≤ 8 ∧ xs = List.range' i (8 - i) ∧ qm_At p l e R s m args below meth c T.heap locs cells slots v1 cc' cI i F ∧ s' = F.setTop (F0 m pc ls rest)) _ _ ⟨0, _, by decide, rfl, h0, rfl⟩ ?_ ?_
    · rintro x xs s' d' acts' Q' ⟨i, F, hi, hxs, hF, rfl⟩ hQ
      have hi8 : i < 8 := by
        rcases Nat.lt_or_ge i 8 with h | h
        · exact h
        · rw [show 8 - i = 0 by omega] at hxs
          cases hxs
      rw [show 8 - i = (7 - i) + 1 by omega, List.range'_succ] at hxs
      obtain ⟨hx, hxs⟩ := List.cons.inj hxs
      subst hx
      have hnx := qm_next hgrow hF
      obtain ⟨h1, ⟨J, XF, hJ⟩, h3, h4, h5, h6⟩ := hF
      have rF := XF.roomAbove (a := 1) (b := 700) (by omega) (by omega)
      have hkF : (F.setTop (F0 m pc ls rest)).vm.classes[cI]? = some kI1 := by
        show F.vm.classes[cI]? = _
        rw [h1]
        exact hkI1
      simp only [wp_bind', Jvm.W.writeLoc, wp_pure']
      refine qm_row hkF hkindI1 n7 (by rw [hlim, e7]; decide) (by rw [hmax, e7]; decide) (show F.heap.size < _ by omega) (show F.slotsUsed + 700 ≤ _ by omega) ?_
      refine ⟨arrV cc' 8 (fun j => if j < x then .ref (T.heap.size + 1 + j) else .null), (qm_push_old (S := F) (show T.heap.size < F.heap.size by omega)).trans h5, (by intro h; cases h), (by simpa [arrV] using hi8), ?_, ?_⟩
      · show State.fitsSlot _ cc' .none x (.ref _) = true
        have hkF2 : F.vm.classes[cc']? = some kA1 := by
          rw [h1]
          exact hkA1
        simp [State.fitsSlot, State.slotType?, hkF2, hkindA1, fits]
      · exact hQ _ _ _ ⟨x + 1, _, hi8, by rw [hxs, show 8 - (x + 1) = 7 - x by omega], hnx, rfl⟩
    · rintro s' d' acts' ⟨i, F, hi, hxs, hF, rfl⟩
      have hi8 : i = 8 := by
        rcases Nat.lt_or_ge i 8 with h | h
        · rw [show 8 - i = (7 - i) + 1 by omega, List.range'_succ] at hxs
          cases hxs
        · omega
      subst hi8
      have hFt : F.topJava?.isSome := by
        obtain ⟨-, ⟨J, XF, -⟩, -⟩ := hF
        exact XF.here.top
      simp only [wp_pure', wp_bind', Jvm.W.mark, Jvm.W.pushRef, State.topJava?_setTop' _ hFt, Option.some.injEq, exists_eq_left', State.setTop_setTop]
      exact ⟨F, hF, rfl⟩
  · rintro s₁ ⟨F, ⟨-, ⟨J, XF, hJ⟩, f3, f4, f5, f6⟩, rfl⟩
    have f5' : F.heap[T.heap.size]? = some (arrV cc' 8 (fun j => .ref (T.heap.size + 1 + j))) := by
      rw [f5]
      exact congrArg some (arrV_congr (fun j hj => if_pos hj))
    obtain ⟨t, a1, b1⟩ := kk cc' cI F.heap hnA hnI f3 f4 f5' f6 F rfl (XF.dropFresh hJ)
    exact ⟨t, fun acts => by rw [afterInstr_ok]; exact a1, b1⟩
