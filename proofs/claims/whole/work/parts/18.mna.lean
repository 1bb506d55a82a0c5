/-! new int[8][700] -/
theorem qa_outer (c : ClassId) (N h0 : Nat) : ∀ i : Nat, i ≤ N → Jvm.Free.Multi.outerC c N h0 i = arrV c N (fun j => if j < i then .ref (h0 + 1 + j) else .null)
  | 0, _ => by
    show ({ cls := c, slots := Array.replicate N .null, vm := .none } : Cell) = _
    rw [arrV_new]
    rfl
  | i + 1, hi => by
    show (Jvm.Free.Multi.outerC c N h0 i).setSlot i (.ref (h0 + 1 + i)) = _
    rw [qa_outer c N h0 i (by omega), arrV_store]
    refine congrArg (arrV c N) (funext fun j => ?_)
    unfold updV
    dsimp only
    by_cases e : j = i
    · rw [if_pos e, if_pos (by omega), e]
    · rw [if_neg e]
      by_cases h : j < i
      · rw [if_pos h, if_pos (by omega)]
      · rw [if_neg h, if_neg (by omega)]
theorem qa_mnaW {p : Program} {l : Launch} {e : Env} {R : Room} {s : State} {m : MethodId} {args : Array Value} {below : List Frame} {meth : Method} {c : Code} {H : Heap} {locs : List Loc} {cells slots : Nat} {Q : State → Prop} {cc : ByteArray} {pc : Nat} {ls : Array Slot} {rest : List Value} {own : String} {index : Nat} (hexec : p.tables.exec = Jvm.exec) (hb : c.code = cc) (hown : s.vm.findClass own = some m.cls) (hclink : (Cond.classLink own index "[[I").before args s = true) (hover : (Cond.arrayOver (.array .int)).before args s = true) (harr : (Cond.arrayClass .int).before args s = true) (hcells : cells + 9 ≤ R.cells) (hslots : slots + 5608 ≤ R.slots) (hdg : decode cc pc = .ok (.multianewarray index 2, 4))
    (kk : ∀ (cA comp : ClassId) (H1 : Heap), s.vm.findClass "[[I" = some cA → s.vm.findClass "[I" = some comp → H1.size = H.size + 9 → (∀ x : Nat, x < H.size → H1[x]? = H[x]?) → H1[H.size]? = some (arrV cA 8 (fun j => .ref (H.size + 1 + j))) → (∀ j : Nat, j < 8 → H1[H.size + 1 + j]? = some (arrV comp 700 (fun _ => .int 0))) → W p l e R s m args below meth c H1 locs (cells + 9) (slots + 5608) Q (F0 m (pc + 4) ls (.ref H.size :: rest))) : W p l e R s m args below meth c H locs cells slots Q (F0 m pc ls (.int 700 :: .int 8 :: rest)) := by
  intro T hT Xs
  have e8 : (8 : Int32).toNatClampNeg = 8 := rfl
  have e7 : (700 : Int32).toNatClampNeg = 700 := rfl
  obtain ⟨vm₁, cA, comp, -, fA, fC, hO, -, X', step⟩ := Xs.multianewarray2F (ty := .int) hexec hown hclink hover harr (g := F0 m pc ls (.int 700 :: .int 8 :: rest)) rfl (by rw [hb]; exact hdg) rfl (by decide) (by decide) (by decide) (by decide) (by decide) rfl rfl (by rw [e8]; omega) (by rw [e8, e7]; omega)
  rw [e8, e7] at X' step
  generalize hF : Jvm.Free.Multi.fill (T.setVm vm₁) cA comp 8 700 (defaultValue .int) 8 = F at X' step
  have hTh : (T.setVm vm₁).heap = H := hT
  obtain ⟨f1, f2, -, -⟩ := Jvm.Free.Multi.fill_facts (T.setVm vm₁) cA comp 8 700 (defaultValue .int) 8
  rw [hF, hTh] at f1 f2
  have hold : ∀ x : Nat, x < H.size → F.heap[x]? = H[x]? := fun x hx => by
    have := Jvm.Free.Multi.fill_old (T.setVm vm₁) cA comp 8 700 (defaultValue .int) (a := x) (by rw [hTh]; exact hx) 8
    rw [hF, hTh] at this
    exact this
  have hrow : ∀ j : Nat, j < 8 → F.heap[H.size + 1 + j]? = some (arrV comp 700 (fun _ => .int 0)) := fun j hj => by
    have := Jvm.Free.Multi.fill_inner (T.setVm vm₁) cA comp 8 700 (defaultValue .int) 8 j hj
    rw [hF, hTh] at this
    rw [this]
    show some ({ cls := comp, slots := Array.replicate 700 (defaultValue .int), vm := .none } : Cell) = _
    rw [arrV_new]
    rfl
  rw [qa_outer cA 8 H.size 8 (Nat.le_refl _)] at f2
  have f3 : F.heap[H.size]? = some (arrV cA 8 (fun j => .ref (H.size + 1 + j))) := by
    rw [f2]
    exact congrArg some (arrV_congr (fun j hj => if_pos hj))
  obtain ⟨t, a1, b1⟩ := kk cA comp F.heap fA fC (by rw [f1]) hold f3 hrow F rfl (by
    have h9 : cells + 1 + 8 = cells + 9 := by omega
    have h8 : slots + 8 + 8 * 700 = slots + 5608 := by omega
    rw [h9, h8] at X'
    exact X')
  refine ⟨t, step t ?_, b1⟩
  have e : T.heap.size = H.size := by rw [hT]
  rw [e]
  exact a1
