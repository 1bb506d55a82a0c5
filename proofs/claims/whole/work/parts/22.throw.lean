/-! A throw of an exception whose constructor hands its text on by another index than 7 (NoSuchElementException: 13). First what the tables say (qx_tab), then the walk (qx_ctor); qx_throw is the kit's vx_throwS (a starting text) turned to it. -/
/-- the library's words of a throw, with the first link of the constructors' chain at the index ix -/
def qx_own (own : String) (ic : Nat) (X : String) (ix : Nat) (rx : ByteArray) (Y : String) (r : List String) : List Cond := Bundle.throwableAtoms ++ Bundle.throwableSAtoms ++ (Bundle.passSAtoms X Y ix rx ++ Bundle.chainSAtoms Y r) ++ (Bundle.ownAtoms own ic X []).drop 33
theorem qx_tl {own : String} {ic : Nat} {X : String} {ix : Nat} {rx : ByteArray} {Y : String} {r : List String} {x : Cond} (i : Nat) (h : ((Bundle.ownAtoms own ic X []).drop 33)[i]? = some x) : x ∈ qx_own own ic X ix rx Y r := List.mem_append_right _ (List.mem_of_getElem? h)
theorem qx_m1 {own : String} {ic : Nat} {X : String} {ix : Nat} {rx : ByteArray} {Y : String} {r : List String} {x : Cond} (h : x ∈ Bundle.throwableAtoms) : x ∈ qx_own own ic X ix rx Y r := List.mem_append_left _ (List.mem_append_left _ (List.mem_append_left _ h))
theorem qx_m2 {own : String} {ic : Nat} {X : String} {ix : Nat} {rx : ByteArray} {Y : String} {r : List String} {x : Cond} (h : x ∈ Bundle.throwableSAtoms) : x ∈ qx_own own ic X ix rx Y r := List.mem_append_left _ (List.mem_append_left _ (List.mem_append_right _ h))
theorem qx_m3 {own : String} {ic : Nat} {X : String} {ix : Nat} {rx : ByteArray} {Y : String} {r : List String} {x : Cond} (h : x ∈ Bundle.passSAtoms X Y ix rx) : x ∈ qx_own own ic X ix rx Y r := List.mem_append_left _ (List.mem_append_right _ (List.mem_append_left _ h))
theorem qx_m4 {own : String} {ic : Nat} {X : String} {ix : Nat} {rx : ByteArray} {Y : String} {r : List String} {x : Cond} (h : x ∈ Bundle.chainSAtoms Y r) : x ∈ qx_own own ic X ix rx Y r := List.mem_append_left _ (List.mem_append_right _ (List.mem_append_right _ h))
/-- a method that a class selects for itself -/
theorem qx_sel {l : Launch} {e : Env} {s : State} {args : Array Value} {cls : String} {c : ClassId} {n : MethodName} {m : MethodId} (ha : l.admits e) (hc : s.vm.findClass cls = some c) (hn : s.methodNamed? n = some m) (ho : n.cls ≠ "java/lang/invoke/MethodHandle" ∧ n.cls ≠ "java/lang/invoke/VarHandle") (h : (Cond.selects cls n n).before args s = true) : selectMethod e.platform s.vm c m = .method m := by
  obtain ⟨c', r, m', i1, i2, i3, i4, -⟩ := Cond.selects_spec h
  have j1 : c' = c := Option.some.inj (i1.symm.trans hc)
  have j2 : r = m := Option.some.inj (i2.symm.trans (State.methodFound?_of_named hn ho))
  have j3 : m' = m := Option.some.inj (i3.symm.trans hn)
  rw [j1, j2, j3] at i4
  rw [Launch.admits_selectMethod ha]
  exact i4
/-- where a field lies in the objects of a class -/
def qx_L (s : State) (c : ClassId) (k : Class) (f : Field) : Prop := k.instanceTypes[f.slot]? = some f.type ∧ ∃ d, Jmm.declares? s.vm f.slot (c + 1) c = some d ∧ d.2.name = f.name
theorem qx_ne {s : State} {c : ClassId} {k : Class} {f g : Field} (hf : qx_L s c k f) (hg : qx_L s c k g) (h : f.name ≠ g.name) : f.slot ≠ g.slot := by
  obtain ⟨-, d, h1, h2⟩ := hf
  obtain ⟨-, d', h3, h4⟩ := hg
  exact Cond.laysApart h1 h3 h2 h4 h
/-- a slot that Throwable's constructor leaves alone holds null still -/
theorem qx_null {T : ThrowableT} {s : State} {c : ClassId} {k : Class} {a : Addr} {u0 sen : RefV} {x : ThreadId} {f : Field} (hf : qx_L s c k f) (hd : defaultValue f.type = .null) (n1 : f.slot ≠ T.fCause.slot) (n2 : f.slot ≠ T.fStack.slot) (n3 : f.slot ≠ T.fSupp.slot) : ((preparedCellV T (freshCell c k) a u0 sen).withEntry x).slots[f.slot]? = some .null := by
  have h := fresh_default (c := c) hf.1
  rw [hd] at h
  simpa [preparedCellV, Cell.setSlot, Cell.withEntry, Array.getElem?_setIfInBounds, n1, n2, n3, n1.symm, n2.symm, n3.symm] using h
/-- what the tables say of such a throw, and nothing of the walk -/
theorem qx_tab {l : Launch} {e : Env} {s : State} {args : Array Value} {own cls : String} {Y9 : String} {r9 : List String} {ic ix : Nat} {rx : ByteArray} (ha : l.admits e) (x0 : decode rx 0 = .ok (.aload_n 0, 1)) (x1 : decode rx 1 = .ok (.aload_n 1, 1)) (x2 : decode rx 2 = .ok (.invokespecial ix, 3)) (x5 : decode rx 5 = .ok (.return_, 1)) (hcls : Bundle.fit cls = true) (hnames : ∀ n ∈ Y9 :: r9, Bundle.fit n = true) (h : ∀ a ∈ qx_own own ic cls ix rx Y9 r9, a.before args s = true) :
    ∃ (T : ThrowableC) (Z : Init0T) (M : MsgC) (P : PassC) (Ps : List PassC) (k : Class) (z : Cell) (u0 sen : RefV),
      (T.Links e.platform s ∧ Z.LaidS T.toThrowableT ∧ M.Links T e.platform s ∧ T.codeObj.maxLocals = 1) ∧
      (Ps.length = (Y9 :: r9).length ∧ (∀ Q, Q ∈ P :: Ps → Q.LinksS e.platform s) ∧ PassesOn (Z.m T.toThrowableT) ((P :: Ps).map (·.toPassT)) ∧ s.methodNamed? (Bundle.initS cls) = some P.m) ∧
      (s.vm.findClass cls = some P.m.cls ∧ s.vm.classes[P.m.cls]? = some k ∧ selectMethod e.platform s.vm P.m.cls T.fill0 = .method T.fill0 ∧ selectMethod e.platform s.vm P.m.cls T.fill = .method T.fill) ∧
      (s.heap[T.aS]? = some z ∧ z.vm.isStatics = true ∧ z.slots[T.fUnassigned.slot]? = some u0.v ∧ z.slots[T.fSentinel.slot]? = some sen.v) ∧
      (∀ (a : Addr) (v : Value), v.isRef = true → Takes s (freshCell P.m.cls k) T.fCause (.ref a) ∧ Takes s (freshCell P.m.cls k) T.fStack u0.v ∧ Takes s (freshCell P.m.cls k) T.fSupp sen.v ∧ Takes s (freshCell P.m.cls k) T.fMsg v) ∧
      ∀ (a : Addr) (x : ThreadId), SkipFacts T e.platform s (fun u => u) u0 ((preparedCellV T.toThrowableT (freshCell P.m.cls k) a u0 sen).withEntry x) := by
  have pl : e.platform.magicAccessors = ({} : Platform).magicAccessors := by rw [ha.platform]
  obtain ⟨T, Z0, L, -, Y⟩ := ThrowableC.of_atoms (args := args) (show e.platform.frameOwnsMonitors = true by rw [ha.platform]) (show e.platform.finalization = false by rw [ha.platform]) pl (fun w hw => h w (qx_m1 hw))
  obtain ⟨Z, M, LZ, LM, hZ⟩ := Init0T.ofS_atoms (args := args) pl L Y (fun w hw => h w (qx_m2 hw))
  have hY := hnames Y9 List.mem_cons_self
  obtain ⟨P, LP, hPm, hPs⟩ := PassC.ofS_atoms (args := args) (s := s) pl (X := cls) (Y := Y9) (Bundle.fit_spec hcls).1 (Bundle.fit_spec hY).2 x0 x1 x2 x5 (fun w hw => h w (qx_m3 hw))
  obtain ⟨P2, Qs, hlen, LP2, hQs, hm2, hon, hons⟩ := Bundle.chainS (args := args) pl hZ r9 Y9 hY (fun n hn => hnames n (List.mem_cons_of_mem _ hn)) (fun w hw => h w (qx_m4 hw))
  have hc : s.vm.findClass cls = some P.m.cls := findClass_of_methodNamed hPm
  obtain ⟨c1, k, q1, hk, hord, -⟩ := Cond.instantiable_spec (h (.instantiable cls 6) (qx_tl 1 rfl))
  have q2 : c1 = P.m.cls := Option.some.inj (q1.symm.trans hc)
  rw [q2] at hk
  obtain ⟨z, hz, hzs⟩ := Y.statics
  obtain ⟨u0, hu⟩ := Cond.staticRefV Y.unassigned L.unassignedStatic L.statics hz hzs (h (.isRef (.static Bundle.tN "UNASSIGNED_STACK" Bundle.steD)) (qx_tl 9 rfl))
  obtain ⟨sen, hn⟩ := Cond.staticRefV Y.sentinel L.sentinelStatic L.statics hz hzs (h (.isRef (.static Bundle.tN "SUPPRESSED_SENTINEL" Bundle.listD)) (qx_tl 10 rfl))
  obtain ⟨ci, i, fB, b1, b2, b3, b4, -, b5, b6, b7⟩ := Cond.ownField (t := .object "java/lang/Object") Y.found L.cls (by decide +kernel) (h (.fieldLink Bundle.tN 198 Bundle.tN "backtrace" "Ljava/lang/Object;") (qx_tl 11 rfl)) (h (.lays Bundle.tN Bundle.tN "backtrace" "Ljava/lang/Object;") (qx_tl 12 rfl)) e.platform pl
  obtain ⟨iM, hM⟩ := Y.msg
  have lay : ∀ {O nm ds : String} {c' i' : Nat} {k' : Class} {f : Field}, s.fieldFound? O nm ds = some (c', k', i', f) → Cond.lays cls O nm ds ∈ qx_own own ic cls ix rx Y9 r9 → qx_L s P.m.cls k f := fun hf hw => Cond.laysAt hc hk hf (h _ hw)
  have lC := lay Y.cause (qx_tl 5 rfl)
  have lS := lay Y.stack (qx_tl 6 rfl)
  have lP := lay Y.supp (qx_tl 7 rfl)
  have lM := lay hM (qx_tl 8 rfl)
  have lB := lay b7 (qx_tl 13 rfl)
  refine ⟨T, Z, M, P, P2 :: Qs, k, z, u0, sen, ⟨L, LZ, LM, Y.objLocals⟩, ⟨by rw [List.length_cons, hlen]; rfl, ?_, ⟨Option.some.inj (hPs.symm.trans hm2), hon, hons⟩, hPm⟩, ⟨hc, hk, qx_sel ha hc Y.fill0 (by decide) (h _ (qx_tl 3 rfl)), qx_sel ha hc Y.fill (by decide) (h _ (qx_tl 4 rfl))⟩, ⟨hz, hzs, hu, hn⟩, ?_, ?_⟩
  · intro Q hQ
    rcases List.mem_cons.mp hQ with e1 | hQ
    · rw [e1]; exact LP
    · rcases List.mem_cons.mp hQ with e1 | hQ
      · rw [e1]; exact LP2
      · exact hQs Q hQ
  · intro a v hv
    refine ⟨Takes.of_laid hk hord lC.1 ?_, Takes.of_laid hk hord lS.1 ?_, Takes.of_laid hk hord lP.1 ?_, Takes.of_laid hk hord lM.1 ?_⟩
    · rw [Y.causeType]; rfl
    · rw [Y.stackType]; exact fits_refV_array _ u0
    · rw [Y.suppType]; exact fits_refV_object _ sen
    · rw [Y.msgType]; exact fits_refV_object _ ⟨v, hv⟩
  · intro a x
    refine ⟨{ ci198 := ci, i198 := i, fBack := fB }, ⟨b1, b2, b3, b4⟩, qx_null lB (by rw [b6]; rfl) (qx_ne lB lC ?_) (qx_ne lB lS ?_) (qx_ne lB lP ?_), fun _ _ => rfl⟩
    · rw [b5, Y.causeName]; decide
    · rw [b5, Y.stackName]; decide
    · rw [b5, Y.suppName]; decide
/-- the walk: the constructor, then athrow -/
theorem qx_ctor {p : Program} {l : Launch} {e : Env} {R : Room} {s : State} {m₀ : MethodId} {args : Array Value} {below : List Frame} {meth : Method} {c : Code} {W : State} {locs : List Loc} {cells slots : Nat} (X : Stand p l e R s m₀ args below meth c W locs cells slots) (hexec : p.tables.exec = Jvm.exec) (htr : e.platform.stackTraces = false) {own cls : String} {Y9 : String} {r9 : List String} {ic : Nat}
    {ix : Nat} {rx : ByteArray} (x0 : decode rx 0 = .ok (.aload_n 0, 1)) (x1 : decode rx 1 = .ok (.aload_n 1, 1)) (x2 : decode rx 2 = .ok (.invokespecial ix, 3)) (x5 : decode rx 5 = .ok (.return_, 1))
    (hown : s.vm.findClass own = some m₀.cls) (hcls : Bundle.fit cls = true) (hnames : ∀ n ∈ Y9 :: r9, Bundle.fit n = true)
    (h : ∀ a ∈ qx_own own ic cls ix rx Y9 r9, a.before args s = true)
    (hlocs : ∀ x ∈ locs, ∀ cell, s.heap[x.base]? = some cell → cell.vm.isStatics = false)
    {a : Addr} {cX : ClassId} {kX : Class} (hfX : s.vm.findClass cls = some cX) (hkX : s.vm.classes[cX]? = some kX) (hcell : W.heap[a]? = some (freshCell cX kX)) (hnew : s.heap.size ≤ a)
    {msg : Value} (hmsg : msg.isRef = true)
    {g : JFrame} (hg : g.method = m₀) (hsize : g.locals.size = c.maxLocals) (hlocked : g.locked = none) (hentered : g.entered = []) {rest : List Value} (hstack : g.stack = msg :: .ref a :: .ref a :: rest)
    (hd6 : decode c.code g.pc = .ok (.invokespecial ic, 3)) (hd9 : decode c.code (g.pc + 3) = .ok (.athrow, 1)) (hout : ∀ x ∈ c.exceptionTable.toList, covers x (g.pc + 3) = false)
    (hRframes : (Y9 :: r9).length + 3 < R.frames) (hRlocals : 2 * g.monitorRoom + ((Value.ref a :: rest).map fun v => v.category).sum + (13 * ((Y9 :: r9).length + 1) + 42) ≤ R.locals) (hlocks : meth.locks = false) :
    ∃ U : State, Steps p.tables e below (W.setTop g) U ∧ U.status = .running ∧ Ended U below (.threw a) ∧ s.WarmedH U.vm ∧ s.sameButNew ({ U with vm := s.vm } : State) locs cells slots ∧
      ∃ ce, U.heap[a]? = some ce ∧ s.vm.findClass cls = some ce.cls ∧ ce.vm = .none := by
  obtain ⟨T, Z, M, P, Ps, k, z, u0, sen, ⟨L, LZ, LM, hobj⟩, ⟨hlen, hQ, hons, hPm⟩, ⟨hc, hk, hs0, hsF⟩, ⟨hz, hzs, hu, hn⟩, htk, hskip⟩ := qx_tab (args := args) X.admits x0 x1 x2 x5 hcls hnames h
  have e1 : cX = P.m.cls := Option.some.inj (hfX.symm.trans hc)
  subst e1
  have e2 : kX = k := Option.some.inj (hkX.symm.trans hk)
  subst e2
  -- the cell of Throwable's statics is as it was
  obtain ⟨zW, hzW, hzv, -, hkeep⟩ := X.same.2.2.2.2.2 T.aS z hz
  have hfar : ∀ i, (⟨T.aS, i⟩ : Loc) ∉ locs := fun i hi => by
    have w : z.vm.isStatics = false := hlocs _ hi z hz
    rw [hzs] at w
    cases w
  have hzu : zW.vm ≠ .unknown := fun w => by
    rw [hzv] at w
    have w2 : z.vm = .unknown := w
    rw [w2] at hzs
    cases hzs
  have hza : T.aS ≠ a := fun w => by
    have w2 := (Array.getElem?_eq_some_iff.mp hz).1
    exact Nat.ne_of_lt (Nat.lt_of_lt_of_le w2 hnew) w
  obtain ⟨tk1, tk2, tk3, tk4⟩ := htk a msg hmsg
  obtain ⟨tm, -, -, -, v1, htm, -, -, -, -, -, -, -, hW1, go1⟩ := Steps.initColdS (tb := p.tables) (e := e) (below := below) (s := s) (U := W) X.here hexec X.warmed (by rw [X.admits.platform]) hown (t := Bundle.initS cls) rfl rfl (Bundle.fit_spec hcls).2 (h _ (qx_tl 0 rfl)) (h (.instanceMethod (Bundle.initS cls)) (qx_m3 (by simp [Bundle.passSAtoms]))) (bytes := rx) (maxL := 2) (h (.code (Bundle.initS cls) rx 2 none) (qx_m3 (by simp [Bundle.passSAtoms]))) (f := g) hg (a := a) (msg := msg) (rest := .ref a :: rest) hstack hd6
  have e3 : tm = P.m := Option.some.inj (htm.symm.trans hPm)
  subst e3
  obtain ⟨v2, X2, go2⟩ := (X.noted hW1).ctorMessageOffV hexec (g := { g with stack := .ref a :: rest }) hg hsize T L Z LZ M LM (P :: Ps) hQ hons (u0 := u0) (sen := sen) (self := a) hmsg (cell := freshCell P.m.cls kX) (cellS := zW) hcell (fun _ w => nomatch w) (fun w => nomatch w) rfl rfl hs0 hsF hzW hza hzu ((hkeep _ (hfar _)).trans hu) ((hkeep _ (hfar _)).trans hn) tk1 tk2 tk3 tk4 hobj (hskip a _) htr [] hd6 (by rw [List.length_cons, hlen]; omega) (by rw [List.length_cons, hlen]; exact hRlocals)
  have X3 := X2.dropFresh (fun x hx => by
    have hb : x.base = a := by
      simp only [List.mem_cons, List.not_mem_nil, or_false] at hx
      rcases hx with w | w | w | w | w <;> rw [w]
    rw [hb]
    exact hnew)
  obtain ⟨go3, hrun, hend, hWU, hsame⟩ := X3.athrowLeaves hexec (g := { g with stack := .ref a :: rest, pc := g.pc + 3 }) hg hlocked hentered hout (a := a) (rest := rest) rfl hd9 hlocks
  refine ⟨_, go1 _ (fun acts => ?_), hrun, hend, hWU, hsame, _, heapAt_setCell_self (s := (W.setVm v1).setVm v2) _ (Array.getElem?_eq_some_iff.mp hcell).1, hc, rfl⟩
  rw [doInvoke_state]
  exact go2 _ go3
/-- the words of such a throw, but the four that speak of the heap -/
def qx_at (own : String) (ic : Nat) (X : String) (ix : Nat) (rx : ByteArray) (Y : String) (r : List String) : List Cond := (qx_own own ic X ix rx Y r).filter vx_no
/-- throw new E("text"): new; dup; ldc; invokespecial; athrow -/
theorem qx_throw {p : Program} {l : Launch} {e : Env} {R : Room} {s : State} {m : MethodId} {args : Array Value} {below : List Frame} {meth : Method} {c : Code} {H : Heap} {locs : List Loc} {cells slots : Nat} {free : Addr → Prop} {ls : Array Slot} {rest : List Value} {Qc : Array Value → State → Outcome → State → Prop} {XC : String → State → State → Prop}
    {cc : ByteArray} {pc : Nat} (hexec : p.tables.exec = Jvm.exec) (hb : c.code = cc) (hl : l.stackTraces = false) {own cls text : String} {Y9 : String} {r9 : List String} {ik is ic mc ms sa : Nat} {A : Nat → Prop}
    {ix : Nat} {rx : ByteArray} (x0 : decode rx 0 = .ok (.aload_n 0, 1)) (x1 : decode rx 1 = .ok (.aload_n 1, 1)) (x2 : decode rx 2 = .ok (.invokespecial ix, 3)) (x5 : decode rx 5 = .ok (.return_, 1))
    (hown : s.vm.findClass own = some m.cls) (hcls : Bundle.fit cls = true) (hnames : ∀ n ∈ Y9 :: r9, Bundle.fit n = true)
    (hk : (Cond.classLink own ik cls).before args s = true) (hini : (Cond.initialized cls).before args s = true) (hstr : vk_R own is text sa s) (hat : ∀ w ∈ qx_at own ic cls ix rx Y9 r9, w.before args s = true)
    (hgood : ∀ w ∈ Cond.classLink own ik cls :: Cond.initialized cls :: qx_at own ic cls ix rx Y9 r9, vx_ot w = true)
    (hU : vx_Zq Bundle.tN "UNASSIGNED_STACK" Bundle.steD A s s.heap) (hN : vx_Zq Bundle.tN "SUPPRESSED_SENTINEL" Bundle.listD A s s.heap) (hS : va_S A s.heap H locs) (hsize : ls.size = c.maxLocals)
    (d0 : decode cc pc = .ok (.new ik, 3)) (d3 : decode cc (pc + 3) = .ok (.dup, 1)) (d4 : decode cc (pc + 4) = .ok (.ldc is, 2)) (d6 : decode cc (pc + 6) = .ok (.invokespecial ic, 3)) (d9 : decode cc (pc + 9) = .ok (.athrow, 1))
    (hout : ∀ x ∈ c.exceptionTable.toList, covers x (pc + 9) = false)
    (hRframes : (Y9 :: r9).length + 3 < R.frames) (hRlocals : (rest.map fun v => v.category).sum + (13 * ((Y9 :: r9).length + 1) + 43) ≤ R.locals) (hRcells : cells + 1 ≤ R.cells) (hRslots : slots + 6 ≤ R.slots) (hlocks : meth.locks = false)
    (hx : ∀ t : State, s.vm.Alike t.vm → H.size ≤ t.heap.size → (∀ q : Nat, q < H.size → t.heap[q]? = H[q]?) → XC cls s t)
    (hf : ∀ z ∈ locs, free z.base) (hc : cells + 1 ≤ mc) (hs : slots + 6 ≤ ms) :
    W p l e R s m args below meth c H locs cells slots (vx_MQ below Qc XC args s mc ms free) (F0 m pc ls rest) := by
  intro T hT X
  have htr : e.platform.stackTraces = false := (show e.platform.stackTraces = l.stackTraces by rw [X.admits.platform]).trans hl
  have Y := vx_rebase X (R' := { frames := R.frames, locals := R.locals, cells := 1, slots := 6 }) (Nat.le_refl _) (Nat.le_refl _) hRcells hRslots
  obtain ⟨s', hA⟩ : ∃ z, z = (T.setVm s.vm).setFrames (.invoking m args :: below) := ⟨_, rfl⟩
  rw [← hA] at Y
  have hvm : s'.vm = s.vm := by rw [hA]; rfl
  have hhp : s'.heap = H := by rw [hA]; exact hT
  have hW0 : s.WarmedH s'.vm := by rw [hvm]; exact State.WarmedH.refl s
  have hat' : ∀ w ∈ qx_at own ic cls ix rx Y9 r9, w.before args s' = true := fun w hw => vx_ot_at hW0 hvm.symm (hgood w (List.mem_cons_of_mem _ (List.mem_cons_of_mem _ hw))) (hat w hw)
  have hk' : (Cond.classLink own ik cls).before args s' = true := vx_ot_at hW0 hvm.symm (hgood _ List.mem_cons_self) hk
  have hini' : (Cond.initialized cls).before args s' = true := vx_ot_at hW0 hvm.symm (hgood _ (List.mem_cons_of_mem _ List.mem_cons_self)) hini
  have hU' : vx_Zq Bundle.tN "UNASSIGNED_STACK" Bundle.steD A s' s'.heap := by rw [hhp]; exact vx_Zq.moved hW0.alike (hU.kept hS.2.1)
  have hN' : vx_Zq Bundle.tN "SUPPRESSED_SENTINEL" Bundle.listD A s' s'.heap := by rw [hhp]; exact vx_Zq.moved hW0.alike (hN.kept hS.2.1)
  have h : ∀ w ∈ qx_own own ic cls ix rx Y9 r9, w.before args s' = true := vx_own hat' (vx_isRefq hU'.1) (vx_isRefq hN'.1) hU'.2.word hN'.2.word
  have hown' : s'.vm.findClass own = some m.cls := by rw [hvm]; exact hown
  have hins : (Cond.instantiable cls 6).before args s' = true := h _ (qx_tl 1 rfl)
  obtain ⟨vm₁, cX, kX, hfX, hkX, -, -, X₁, st1⟩ := Y.newCold hexec (own := own) (C := cls) (index := ik) (n := 6) hown' hk' hins hini'
    (g := F0 m pc ls rest) rfl (by rw [hb]; exact d0) (Nat.le_refl _) (Nat.le_refl _)
  generalize hT1 : (T.setVm vm₁).pushCell { cls := cX, slots := kX.instanceTypes.map defaultValue, vm := .none } = T1 at X₁ st1
  have hcat : (Value.ref T.heap.size).category = 1 := rfl
  have hcellA : T1.heap[T.heap.size]? = some (freshCell cX kX) := by rw [← hT1]; exact State.heap_pushCell_size _ _
  have d3' : decode c.code (pc + 3) = .ok (.dup, 1) := by rw [hb]; exact d3
  have d4' : decode c.code (pc + 4) = .ok (.ldc is, 2) := by rw [hb]; exact d4
  have hstr' : vk_R own is text sa s' := vk_R.warm hW0 hstr
  obtain ⟨U, hsteps, hrun, hend, hW, hsame, ce, hce, hcl0, hcv⟩ := qx_ctor X₁ hexec htr (own := own) (cls := cls) (ic := ic) x0 x1 x2 x5 hown' hcls hnames h (fun x hx => nomatch hx) hfX hkX hcellA (by rw [hhp, hT]; exact Nat.le_refl _) (msg := .ref sa) rfl
    (g := { method := m, pc := pc + 6, locals := ls, stack := .ref sa :: .ref T.heap.size :: .ref T.heap.size :: rest, locked := none }) rfl hsize rfl rfl (rest := rest) rfl
    (by rw [hb]; exact d6) (by rw [hb]; exact d9) hout hRframes (by simp only [List.map_cons, List.sum_cons, hcat]; omega) hlocks
  obtain ⟨f1, f2⟩ := vx_frame hsame
  rw [hhp] at f1 f2
  have hWs : s.WarmedH U.vm := State.WarmedH.trans hW0 hW
  have hcl : s.vm.findClass cls = some ce.cls := by
    rw [hvm] at hcl0
    exact hcl0
  have hall : s.sameButNew ({ U with vm := s.vm } : State) locs mc ms := by
    subst hA
    obtain ⟨e1, e2⟩ := hsame
    rw [State.setFrames_setFrames] at e1
    have h2 : (T.setVm s.vm).sameButNew ({ U with vm := s.vm } : State) [] (0 + 1) (0 + 6) := ⟨e1, e2⟩
    have h3 := X.same.trans h2
    rw [List.append_nil] at h3
    exact h3.mono hc hs
  refine ⟨U, ?_, .threw T.heap.size, hrun, hend, Or.inr ⟨T.heap.size, rfl, cls, ce, locs, hx U hWs.alike f1 (fun q hq => f2 q hq (fun z hz => nomatch hz)), hce, hcv, hcl, hWs, hall, hf⟩⟩
  refine st1 _ ?_
  show Steps p.tables e below (T1.setTop { method := m, pc := pc + 3, locals := ls, stack := .ref T.heap.size :: rest, locked := none }) _
  jvm_step X₁.here [X₁.here.top, hexec, d3', Value.category]
  exact X₁.ldcString hexec (own := own) (text := text) (index := is) (a := sa) hown' hstr'.1 hstr'.2
    (g := { method := m, pc := pc + 4, locals := ls, stack := .ref T.heap.size :: .ref T.heap.size :: rest, locked := none }) rfl d4' _ hsteps
