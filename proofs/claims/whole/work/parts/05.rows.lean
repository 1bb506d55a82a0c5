theorem qj_iconst {F : qc_F} {cc : ByteArray} {own nm : String} {rF rC rS rL cells slots pc : Nat} {ls : List (Option Value)} {st : List Value} {h : qc_Pl} {n : Int} {v : Int32} (cx : qc_X F cc own nm rF rC rS rL) (hd : decode cc pc = .ok (.iconst n, 1)) (hv : Int32.ofInt n = v) (k : qc_J F cells slots (pc + 1) ls (.int v :: st) h) : qc_J F cells slots pc ls (st) h := by
  obtain ⟨p, l, e, R, s, m, args, below, meth, c, nL, D, ca, A, n0, ad0, Q⟩ := F
  obtain ⟨hx, hb, hml, hown, hts, hlocks, hG, hroom, hnm⟩ := cx
  intro ad H locs la hw hS ha hl
  exact lv_iconst hx hb hd hv (k ad H locs la hw hS ha hl)
theorem qj_bipush {F : qc_F} {cc : ByteArray} {own nm : String} {rF rC rS rL cells slots pc : Nat} {ls : List (Option Value)} {st : List Value} {h : qc_Pl} {n : Int} {v : Int32} (cx : qc_X F cc own nm rF rC rS rL) (hd : decode cc pc = .ok (.bipush n, 2)) (hv : (Int8.ofInt n).toInt32 = v) (k : qc_J F cells slots (pc + 2) ls (.int v :: st) h) : qc_J F cells slots pc ls (st) h := by
  obtain ⟨p, l, e, R, s, m, args, below, meth, c, nL, D, ca, A, n0, ad0, Q⟩ := F
  obtain ⟨hx, hb, hml, hown, hts, hlocks, hG, hroom, hnm⟩ := cx
  intro ad H locs la hw hS ha hl
  exact lv_bipush hx hb hd hv (k ad H locs la hw hS ha hl)
theorem qj_sipush {F : qc_F} {cc : ByteArray} {own nm : String} {rF rC rS rL cells slots pc : Nat} {ls : List (Option Value)} {st : List Value} {h : qc_Pl} {n : Int} {v : Int32} (cx : qc_X F cc own nm rF rC rS rL) (hd : decode cc pc = .ok (.sipush n, 3)) (hv : (Int16.ofInt n).toInt32 = v) (k : qc_J F cells slots (pc + 3) ls (.int v :: st) h) : qc_J F cells slots pc ls (st) h := by
  obtain ⟨p, l, e, R, s, m, args, below, meth, c, nL, D, ca, A, n0, ad0, Q⟩ := F
  obtain ⟨hx, hb, hml, hown, hts, hlocks, hG, hroom, hnm⟩ := cx
  intro ad H locs la hw hS ha hl
  exact lv_sipush hx hb hd hv (k ad H locs la hw hS ha hl)
theorem qj_lconst {F : qc_F} {cc : ByteArray} {own nm : String} {rF rC rS rL cells slots pc : Nat} {ls : List (Option Value)} {st : List Value} {h : qc_Pl} {n : Fin 2} {v : Int64} (cx : qc_X F cc own nm rF rC rS rL) (hd : decode cc pc = .ok (.lconst n, 1)) (hv : Int64.ofNat (n : Nat) = v) (k : qc_J F cells slots (pc + 1) ls (.long v :: st) h) : qc_J F cells slots pc ls (st) h := by
  obtain ⟨p, l, e, R, s, m, args, below, meth, c, nL, D, ca, A, n0, ad0, Q⟩ := F
  obtain ⟨hx, hb, hml, hown, hts, hlocks, hG, hroom, hnm⟩ := cx
  intro ad H locs la hw hS ha hl
  exact lv_lconst hx hb hd hv (k ad H locs la hw hS ha hl)
theorem qj_iload_n {F : qc_F} {cc : ByteArray} {own nm : String} {rF rC rS rL cells slots pc : Nat} {ls : List (Option Value)} {st : List Value} {h : qc_Pl} {n : Fin 4} {i : Nat} {x : Int32} (cx : qc_X F cc own nm rF rC rS rL) (hd : decode cc pc = .ok (.iload_n n, 1)) (hi : (n : Nat) = i) (hv : ls[i]? = some (some (.int x))) (k : qc_J F cells slots (pc + 1) ls (.int x :: st) h) : qc_J F cells slots pc ls (st) h := by
  obtain ⟨p, l, e, R, s, m, args, below, meth, c, nL, D, ca, A, n0, ad0, Q⟩ := F
  obtain ⟨hx, hb, hml, hown, hts, hlocks, hG, hroom, hnm⟩ := cx
  intro ad H locs la hw hS ha hl
  exact lv_iload_n hx hb hd hi (hl.2.2.2 _ _ hv) (k ad H locs la hw hS ha hl)
theorem qj_iload {F : qc_F} {cc : ByteArray} {own nm : String} {rF rC rS rL cells slots pc : Nat} {ls : List (Option Value)} {st : List Value} {h : qc_Pl} {i : Nat} {x : Int32} (cx : qc_X F cc own nm rF rC rS rL) (hd : decode cc pc = .ok (.iload i, 2)) (hv : ls[i]? = some (some (.int x))) (k : qc_J F cells slots (pc + 2) ls (.int x :: st) h) : qc_J F cells slots pc ls (st) h := by
  obtain ⟨p, l, e, R, s, m, args, below, meth, c, nL, D, ca, A, n0, ad0, Q⟩ := F
  obtain ⟨hx, hb, hml, hown, hts, hlocks, hG, hroom, hnm⟩ := cx
  intro ad H locs la hw hS ha hl
  exact lv_iload hx hb hd (hl.2.2.2 _ _ hv) (k ad H locs la hw hS ha hl)
theorem qj_lload_n {F : qc_F} {cc : ByteArray} {own nm : String} {rF rC rS rL cells slots pc : Nat} {ls : List (Option Value)} {st : List Value} {h : qc_Pl} {n : Fin 4} {i : Nat} {x : Int64} (cx : qc_X F cc own nm rF rC rS rL) (hd : decode cc pc = .ok (.lload_n n, 1)) (hi : (n : Nat) = i) (hv : ls[i]? = some (some (.long x))) (k : qc_J F cells slots (pc + 1) ls (.long x :: st) h) : qc_J F cells slots pc ls (st) h := by
  obtain ⟨p, l, e, R, s, m, args, below, meth, c, nL, D, ca, A, n0, ad0, Q⟩ := F
  obtain ⟨hx, hb, hml, hown, hts, hlocks, hG, hroom, hnm⟩ := cx
  intro ad H locs la hw hS ha hl
  exact lv_lload_n hx hb hd hi (hl.2.2.2 _ _ hv) (k ad H locs la hw hS ha hl)
theorem qj_lload {F : qc_F} {cc : ByteArray} {own nm : String} {rF rC rS rL cells slots pc : Nat} {ls : List (Option Value)} {st : List Value} {h : qc_Pl} {i : Nat} {x : Int64} (cx : qc_X F cc own nm rF rC rS rL) (hd : decode cc pc = .ok (.lload i, 2)) (hv : ls[i]? = some (some (.long x))) (k : qc_J F cells slots (pc + 2) ls (.long x :: st) h) : qc_J F cells slots pc ls (st) h := by
  obtain ⟨p, l, e, R, s, m, args, below, meth, c, nL, D, ca, A, n0, ad0, Q⟩ := F
  obtain ⟨hx, hb, hml, hown, hts, hlocks, hG, hroom, hnm⟩ := cx
  intro ad H locs la hw hS ha hl
  exact lv_lload hx hb hd (hl.2.2.2 _ _ hv) (k ad H locs la hw hS ha hl)
theorem qj_aload_n {F : qc_F} {cc : ByteArray} {own nm : String} {rF rC rS rL cells slots pc : Nat} {ls : List (Option Value)} {st : List Value} {h : qc_Pl} {n : Fin 4} {i : Nat} {x : Nat} (cx : qc_X F cc own nm rF rC rS rL) (hd : decode cc pc = .ok (.aload_n n, 1)) (hi : (n : Nat) = i) (hv : ls[i]? = some (some (.ref x))) (k : qc_J F cells slots (pc + 1) ls (.ref x :: st) h) : qc_J F cells slots pc ls (st) h := by
  obtain ⟨p, l, e, R, s, m, args, below, meth, c, nL, D, ca, A, n0, ad0, Q⟩ := F
  obtain ⟨hx, hb, hml, hown, hts, hlocks, hG, hroom, hnm⟩ := cx
  intro ad H locs la hw hS ha hl
  exact lv_aload_n (x := ad x) hx hb hd hi (hl.2.2.2 _ _ hv) (k ad H locs la hw hS ha hl)
theorem qj_aload {F : qc_F} {cc : ByteArray} {own nm : String} {rF rC rS rL cells slots pc : Nat} {ls : List (Option Value)} {st : List Value} {h : qc_Pl} {i : Nat} {x : Nat} (cx : qc_X F cc own nm rF rC rS rL) (hd : decode cc pc = .ok (.aload i, 2)) (hv : ls[i]? = some (some (.ref x))) (k : qc_J F cells slots (pc + 2) ls (.ref x :: st) h) : qc_J F cells slots pc ls (st) h := by
  obtain ⟨p, l, e, R, s, m, args, below, meth, c, nL, D, ca, A, n0, ad0, Q⟩ := F
  obtain ⟨hx, hb, hml, hown, hts, hlocks, hG, hroom, hnm⟩ := cx
  intro ad H locs la hw hS ha hl
  exact lv_aload (x := ad x) hx hb hd (hl.2.2.2 _ _ hv) (k ad H locs la hw hS ha hl)
theorem qj_istore_n {F : qc_F} {cc : ByteArray} {own nm : String} {rF rC rS rL cells slots pc : Nat} {ls : List (Option Value)} {st : List Value} {h : qc_Pl} {n : Fin 4} {i : Nat} {x : Int32} {ls1 : List (Option Value)} (cx : qc_X F cc own nm rF rC rS rL) (hd : decode cc pc = .ok (.istore_n n, 1)) (hi : (n : Nat) = i) (hn : decide (i < ls.length) = true) (h1 : qc_o1 ls i = true) (hL : ls.set i (some (.int x)) = ls1) (k : qc_J F cells slots (pc + 1) ls1 st h) : qc_J F cells slots pc ls (.int x :: st) h := by
  obtain ⟨p, l, e, R, s, m, args, below, meth, c, nL, D, ca, A, n0, ad0, Q⟩ := F
  obtain ⟨hx, hb, hml, hown, hts, hlocks, hG, hroom, hnm⟩ := cx
  intro ad H locs la hw hS ha hl
  exact lv_istore_n (x := x) hx hb hd hi hl.has (Nat.lt_of_lt_of_le (of_decide_eq_true hn) hl.2.2.1) rfl (fun la' h' => k ad H locs la' hw hS ha (hL ▸ qc_lv.put (v := .int x) hl.2.2.1 h1 h'))
theorem qj_istore {F : qc_F} {cc : ByteArray} {own nm : String} {rF rC rS rL cells slots pc : Nat} {ls : List (Option Value)} {st : List Value} {h : qc_Pl} {i : Nat} {x : Int32} {ls1 : List (Option Value)} (cx : qc_X F cc own nm rF rC rS rL) (hd : decode cc pc = .ok (.istore i, 2)) (hn : decide (i < ls.length) = true) (h1 : qc_o1 ls i = true) (hL : ls.set i (some (.int x)) = ls1) (k : qc_J F cells slots (pc + 2) ls1 st h) : qc_J F cells slots pc ls (.int x :: st) h := by
  obtain ⟨p, l, e, R, s, m, args, below, meth, c, nL, D, ca, A, n0, ad0, Q⟩ := F
  obtain ⟨hx, hb, hml, hown, hts, hlocks, hG, hroom, hnm⟩ := cx
  intro ad H locs la hw hS ha hl
  exact lv_istore (x := x) hx hb hd hl.has (Nat.lt_of_lt_of_le (of_decide_eq_true hn) hl.2.2.1) rfl (fun la' h' => k ad H locs la' hw hS ha (hL ▸ qc_lv.put (v := .int x) hl.2.2.1 h1 h'))
theorem qj_astore_n {F : qc_F} {cc : ByteArray} {own nm : String} {rF rC rS rL cells slots pc : Nat} {ls : List (Option Value)} {st : List Value} {h : qc_Pl} {n : Fin 4} {i : Nat} {x : Nat} {ls1 : List (Option Value)} (cx : qc_X F cc own nm rF rC rS rL) (hd : decode cc pc = .ok (.astore_n n, 1)) (hi : (n : Nat) = i) (hn : decide (i < ls.length) = true) (h1 : qc_o1 ls i = true) (hL : ls.set i (some (.ref x)) = ls1) (k : qc_J F cells slots (pc + 1) ls1 st h) : qc_J F cells slots pc ls (.ref x :: st) h := by
  obtain ⟨p, l, e, R, s, m, args, below, meth, c, nL, D, ca, A, n0, ad0, Q⟩ := F
  obtain ⟨hx, hb, hml, hown, hts, hlocks, hG, hroom, hnm⟩ := cx
  intro ad H locs la hw hS ha hl
  exact lv_astore_n (x := ad x) hx hb hd hi hl.has (Nat.lt_of_lt_of_le (of_decide_eq_true hn) hl.2.2.1) rfl (fun la' h' => k ad H locs la' hw hS ha (hL ▸ qc_lv.put (v := .ref x) hl.2.2.1 h1 h'))
theorem qj_astore {F : qc_F} {cc : ByteArray} {own nm : String} {rF rC rS rL cells slots pc : Nat} {ls : List (Option Value)} {st : List Value} {h : qc_Pl} {i : Nat} {x : Nat} {ls1 : List (Option Value)} (cx : qc_X F cc own nm rF rC rS rL) (hd : decode cc pc = .ok (.astore i, 2)) (hn : decide (i < ls.length) = true) (h1 : qc_o1 ls i = true) (hL : ls.set i (some (.ref x)) = ls1) (k : qc_J F cells slots (pc + 2) ls1 st h) : qc_J F cells slots pc ls (.ref x :: st) h := by
  obtain ⟨p, l, e, R, s, m, args, below, meth, c, nL, D, ca, A, n0, ad0, Q⟩ := F
  obtain ⟨hx, hb, hml, hown, hts, hlocks, hG, hroom, hnm⟩ := cx
  intro ad H locs la hw hS ha hl
  exact lv_astore (x := ad x) hx hb hd hl.has (Nat.lt_of_lt_of_le (of_decide_eq_true hn) hl.2.2.1) rfl (fun la' h' => k ad H locs la' hw hS ha (hL ▸ qc_lv.put (v := .ref x) hl.2.2.1 h1 h'))
theorem qj_lstore_n {F : qc_F} {cc : ByteArray} {own nm : String} {rF rC rS rL cells slots pc : Nat} {ls : List (Option Value)} {st : List Value} {h : qc_Pl} {n : Fin 4} {i : Nat} {x : Int64} {ls1 : List (Option Value)} (cx : qc_X F cc own nm rF rC rS rL) (hd : decode cc pc = .ok (.lstore_n n, 1)) (hi : (n : Nat) = i) (hn : decide (i + 1 < ls.length) = true) (h1 : qc_o1 ls i = true) (hL : (ls.set i (some (.long x))).set (i + 1) none = ls1) (k : qc_J F cells slots (pc + 1) ls1 st h) : qc_J F cells slots pc ls (.long x :: st) h := by
  obtain ⟨p, l, e, R, s, m, args, below, meth, c, nL, D, ca, A, n0, ad0, Q⟩ := F
  obtain ⟨hx, hb, hml, hown, hts, hlocks, hG, hroom, hnm⟩ := cx
  intro ad H locs la hw hS ha hl
  exact lv_lstore_n (x := x) hx hb hd hi hl.has (Nat.lt_of_lt_of_le (of_decide_eq_true hn) hl.2.2.1) rfl (fun la' h' => k ad H locs la' hw hS ha (hL ▸ qc_lv.put2 (v := .long x) hl.2.2.1 h1 h'))
theorem qj_lstore {F : qc_F} {cc : ByteArray} {own nm : String} {rF rC rS rL cells slots pc : Nat} {ls : List (Option Value)} {st : List Value} {h : qc_Pl} {i : Nat} {x : Int64} {ls1 : List (Option Value)} (cx : qc_X F cc own nm rF rC rS rL) (hd : decode cc pc = .ok (.lstore i, 2)) (hn : decide (i + 1 < ls.length) = true) (h1 : qc_o1 ls i = true) (hL : (ls.set i (some (.long x))).set (i + 1) none = ls1) (k : qc_J F cells slots (pc + 2) ls1 st h) : qc_J F cells slots pc ls (.long x :: st) h := by
  obtain ⟨p, l, e, R, s, m, args, below, meth, c, nL, D, ca, A, n0, ad0, Q⟩ := F
  obtain ⟨hx, hb, hml, hown, hts, hlocks, hG, hroom, hnm⟩ := cx
  intro ad H locs la hw hS ha hl
  exact lv_lstore (x := x) hx hb hd hl.has (Nat.lt_of_lt_of_le (of_decide_eq_true hn) hl.2.2.1) rfl (fun la' h' => k ad H locs la' hw hS ha (hL ▸ qc_lv.put2 (v := .long x) hl.2.2.1 h1 h'))
theorem qj_iinc {F : qc_F} {cc : ByteArray} {own nm : String} {rF rC rS rL cells slots pc : Nat} {ls : List (Option Value)} {st : List Value} {h : qc_Pl} {i : Nat} {n : Int} {x v : Int32} {ls1 : List (Option Value)} (cx : qc_X F cc own nm rF rC rS rL) (hd : decode cc pc = .ok (.iinc i n, 3)) (hv : ls[i]? = some (some (.int x))) (he : x + Int32.ofInt n = v) (h1 : qc_o1 ls i = true) (hL : ls.set i (some (.int v)) = ls1) (k : qc_J F cells slots (pc + 3) ls1 st h) : qc_J F cells slots pc ls st h := by
  obtain ⟨p, l, e, R, s, m, args, below, meth, c, nL, D, ca, A, n0, ad0, Q⟩ := F
  obtain ⟨hx, hb, hml, hown, hts, hlocks, hG, hroom, hnm⟩ := cx
  intro ad H locs la hw hS ha hl
  obtain ⟨k0, hk0⟩ := List.getElem?_of_mem (qc_en_mem (ad := ad) hv)
  exact lv_iinc (x := x) (v := v) hx hb hd hl.has hk0 he (Nat.lt_of_lt_of_le (List.getElem?_eq_some_iff.mp hv).1 hl.2.2.1) rfl (fun la' h' => k ad H locs la' hw hS ha (hL ▸ qc_lv.put (v := .int v) hl.2.2.1 h1 h'))
theorem qj_iadd {F : qc_F} {cc : ByteArray} {own nm : String} {rF rC rS rL cells slots pc : Nat} {ls : List (Option Value)} {st : List Value} {h : qc_Pl} {x y : Int32} (cx : qc_X F cc own nm rF rC rS rL) (hd : decode cc pc = .ok (.iadd, 1))  (k : qc_J F cells slots (pc + 1) ls (.int (x + y) :: st) h) : qc_J F cells slots pc ls (.int y :: .int x :: st) h := by
  obtain ⟨p, l, e, R, s, m, args, below, meth, c, nL, D, ca, A, n0, ad0, Q⟩ := F
  obtain ⟨hx, hb, hml, hown, hts, hlocks, hG, hroom, hnm⟩ := cx
  intro ad H locs la hw hS ha hl
  exact lv_iadd hx hb hd (k ad H locs la hw hS ha hl)
theorem qj_isub {F : qc_F} {cc : ByteArray} {own nm : String} {rF rC rS rL cells slots pc : Nat} {ls : List (Option Value)} {st : List Value} {h : qc_Pl} {x y : Int32} (cx : qc_X F cc own nm rF rC rS rL) (hd : decode cc pc = .ok (.isub, 1))  (k : qc_J F cells slots (pc + 1) ls (.int (x - y) :: st) h) : qc_J F cells slots pc ls (.int y :: .int x :: st) h := by
  obtain ⟨p, l, e, R, s, m, args, below, meth, c, nL, D, ca, A, n0, ad0, Q⟩ := F
  obtain ⟨hx, hb, hml, hown, hts, hlocks, hG, hroom, hnm⟩ := cx
  intro ad H locs la hw hS ha hl
  exact lv_isub hx hb hd (k ad H locs la hw hS ha hl)
theorem qj_imul {F : qc_F} {cc : ByteArray} {own nm : String} {rF rC rS rL cells slots pc : Nat} {ls : List (Option Value)} {st : List Value} {h : qc_Pl} {x y : Int32} (cx : qc_X F cc own nm rF rC rS rL) (hd : decode cc pc = .ok (.imul, 1))  (k : qc_J F cells slots (pc + 1) ls (.int (x * y) :: st) h) : qc_J F cells slots pc ls (.int y :: .int x :: st) h := by
  obtain ⟨p, l, e, R, s, m, args, below, meth, c, nL, D, ca, A, n0, ad0, Q⟩ := F
  obtain ⟨hx, hb, hml, hown, hts, hlocks, hG, hroom, hnm⟩ := cx
  intro ad H locs la hw hS ha hl
  exact lv_imul hx hb hd (k ad H locs la hw hS ha hl)
theorem qj_iand {F : qc_F} {cc : ByteArray} {own nm : String} {rF rC rS rL cells slots pc : Nat} {ls : List (Option Value)} {st : List Value} {h : qc_Pl} {x y : Int32} (cx : qc_X F cc own nm rF rC rS rL) (hd : decode cc pc = .ok (.iand, 1))  (k : qc_J F cells slots (pc + 1) ls (.int (x &&& y) :: st) h) : qc_J F cells slots pc ls (.int y :: .int x :: st) h := by
  obtain ⟨p, l, e, R, s, m, args, below, meth, c, nL, D, ca, A, n0, ad0, Q⟩ := F
  obtain ⟨hx, hb, hml, hown, hts, hlocks, hG, hroom, hnm⟩ := cx
  intro ad H locs la hw hS ha hl
  exact lv_iand hx hb hd (k ad H locs la hw hS ha hl)
theorem qj_ior {F : qc_F} {cc : ByteArray} {own nm : String} {rF rC rS rL cells slots pc : Nat} {ls : List (Option Value)} {st : List Value} {h : qc_Pl} {x y : Int32} (cx : qc_X F cc own nm rF rC rS rL) (hd : decode cc pc = .ok (.ior, 1))  (k : qc_J F cells slots (pc + 1) ls (.int (x ||| y) :: st) h) : qc_J F cells slots pc ls (.int y :: .int x :: st) h := by
  obtain ⟨p, l, e, R, s, m, args, below, meth, c, nL, D, ca, A, n0, ad0, Q⟩ := F
  obtain ⟨hx, hb, hml, hown, hts, hlocks, hG, hroom, hnm⟩ := cx
  intro ad H locs la hw hS ha hl
  exact lv_ior hx hb hd (k ad H locs la hw hS ha hl)
theorem qj_ixor {F : qc_F} {cc : ByteArray} {own nm : String} {rF rC rS rL cells slots pc : Nat} {ls : List (Option Value)} {st : List Value} {h : qc_Pl} {x y : Int32} (cx : qc_X F cc own nm rF rC rS rL) (hd : decode cc pc = .ok (.ixor, 1))  (k : qc_J F cells slots (pc + 1) ls (.int (x ^^^ y) :: st) h) : qc_J F cells slots pc ls (.int y :: .int x :: st) h := by
  obtain ⟨p, l, e, R, s, m, args, below, meth, c, nL, D, ca, A, n0, ad0, Q⟩ := F
  obtain ⟨hx, hb, hml, hown, hts, hlocks, hG, hroom, hnm⟩ := cx
  intro ad H locs la hw hS ha hl
  exact lv_ixor hx hb hd (k ad H locs la hw hS ha hl)
theorem qj_ishl {F : qc_F} {cc : ByteArray} {own nm : String} {rF rC rS rL cells slots pc : Nat} {ls : List (Option Value)} {st : List Value} {h : qc_Pl} {x y : Int32} (cx : qc_X F cc own nm rF rC rS rL) (hd : decode cc pc = .ok (.ishl, 1))  (k : qc_J F cells slots (pc + 1) ls (.int (x <<< (y &&& 31)) :: st) h) : qc_J F cells slots pc ls (.int y :: .int x :: st) h := by
  obtain ⟨p, l, e, R, s, m, args, below, meth, c, nL, D, ca, A, n0, ad0, Q⟩ := F
  obtain ⟨hx, hb, hml, hown, hts, hlocks, hG, hroom, hnm⟩ := cx
  intro ad H locs la hw hS ha hl
  exact lv_ishl hx hb hd (k ad H locs la hw hS ha hl)
theorem qj_ishr {F : qc_F} {cc : ByteArray} {own nm : String} {rF rC rS rL cells slots pc : Nat} {ls : List (Option Value)} {st : List Value} {h : qc_Pl} {x y : Int32} (cx : qc_X F cc own nm rF rC rS rL) (hd : decode cc pc = .ok (.ishr, 1))  (k : qc_J F cells slots (pc + 1) ls (.int (x >>> (y &&& 31)) :: st) h) : qc_J F cells slots pc ls (.int y :: .int x :: st) h := by
  obtain ⟨p, l, e, R, s, m, args, below, meth, c, nL, D, ca, A, n0, ad0, Q⟩ := F
  obtain ⟨hx, hb, hml, hown, hts, hlocks, hG, hroom, hnm⟩ := cx
  intro ad H locs la hw hS ha hl
  exact lv_ishr hx hb hd (k ad H locs la hw hS ha hl)
theorem qj_iushr {F : qc_F} {cc : ByteArray} {own nm : String} {rF rC rS rL cells slots pc : Nat} {ls : List (Option Value)} {st : List Value} {h : qc_Pl} {x y : Int32} (cx : qc_X F cc own nm rF rC rS rL) (hd : decode cc pc = .ok (.iushr, 1))  (k : qc_J F cells slots (pc + 1) ls (.int ((x.toUInt32 >>> (y.toUInt32 &&& Int32.toUInt32 31)).toInt32) :: st) h) : qc_J F cells slots pc ls (.int y :: .int x :: st) h := by
  obtain ⟨p, l, e, R, s, m, args, below, meth, c, nL, D, ca, A, n0, ad0, Q⟩ := F
  obtain ⟨hx, hb, hml, hown, hts, hlocks, hG, hroom, hnm⟩ := cx
  intro ad H locs la hw hS ha hl
  exact lv_iushr hx hb hd rfl (k ad H locs la hw hS ha hl)
theorem qj_ineg {F : qc_F} {cc : ByteArray} {own nm : String} {rF rC rS rL cells slots pc : Nat} {ls : List (Option Value)} {st : List Value} {h : qc_Pl} {x : Int32} (cx : qc_X F cc own nm rF rC rS rL) (hd : decode cc pc = .ok (.ineg, 1))  (k : qc_J F cells slots (pc + 1) ls (.int (-x) :: st) h) : qc_J F cells slots pc ls (.int x :: st) h := by
  obtain ⟨p, l, e, R, s, m, args, below, meth, c, nL, D, ca, A, n0, ad0, Q⟩ := F
  obtain ⟨hx, hb, hml, hown, hts, hlocks, hG, hroom, hnm⟩ := cx
  intro ad H locs la hw hS ha hl
  exact lv_ineg hx hb hd (k ad H locs la hw hS ha hl)
theorem qj_idiv {F : qc_F} {cc : ByteArray} {own nm : String} {rF rC rS rL cells slots pc : Nat} {ls : List (Option Value)} {st : List Value} {h : qc_Pl} {x y : Int32} (cx : qc_X F cc own nm rF rC rS rL) (hd : decode cc pc = .ok (.idiv, 1)) (hne : ¬ y = 0) (k : qc_J F cells slots (pc + 1) ls (.int (x / y) :: st) h) : qc_J F cells slots pc ls (.int y :: .int x :: st) h := by
  obtain ⟨p, l, e, R, s, m, args, below, meth, c, nL, D, ca, A, n0, ad0, Q⟩ := F
  obtain ⟨hx, hb, hml, hown, hts, hlocks, hG, hroom, hnm⟩ := cx
  intro ad H locs la hw hS ha hl
  exact lv_idiv hx hb hd hne (k ad H locs la hw hS ha hl)
theorem qj_irem {F : qc_F} {cc : ByteArray} {own nm : String} {rF rC rS rL cells slots pc : Nat} {ls : List (Option Value)} {st : List Value} {h : qc_Pl} {x y : Int32} (cx : qc_X F cc own nm rF rC rS rL) (hd : decode cc pc = .ok (.irem, 1)) (hne : ¬ y = 0) (k : qc_J F cells slots (pc + 1) ls (.int (x - x / y * y) :: st) h) : qc_J F cells slots pc ls (.int y :: .int x :: st) h := by
  obtain ⟨p, l, e, R, s, m, args, below, meth, c, nL, D, ca, A, n0, ad0, Q⟩ := F
  obtain ⟨hx, hb, hml, hown, hts, hlocks, hG, hroom, hnm⟩ := cx
  intro ad H locs la hw hS ha hl
  exact lv_irem hx hb hd hne (k ad H locs la hw hS ha hl)
theorem qj_ladd {F : qc_F} {cc : ByteArray} {own nm : String} {rF rC rS rL cells slots pc : Nat} {ls : List (Option Value)} {st : List Value} {h : qc_Pl} {x y : Int64} (cx : qc_X F cc own nm rF rC rS rL) (hd : decode cc pc = .ok (.ladd, 1))  (k : qc_J F cells slots (pc + 1) ls (.long (x + y) :: st) h) : qc_J F cells slots pc ls (.long y :: .long x :: st) h := by
  obtain ⟨p, l, e, R, s, m, args, below, meth, c, nL, D, ca, A, n0, ad0, Q⟩ := F
  obtain ⟨hx, hb, hml, hown, hts, hlocks, hG, hroom, hnm⟩ := cx
  intro ad H locs la hw hS ha hl
  exact lv_ladd hx hb hd (k ad H locs la hw hS ha hl)
theorem qj_lsub {F : qc_F} {cc : ByteArray} {own nm : String} {rF rC rS rL cells slots pc : Nat} {ls : List (Option Value)} {st : List Value} {h : qc_Pl} {x y : Int64} (cx : qc_X F cc own nm rF rC rS rL) (hd : decode cc pc = .ok (.lsub, 1))  (k : qc_J F cells slots (pc + 1) ls (.long (x - y) :: st) h) : qc_J F cells slots pc ls (.long y :: .long x :: st) h := by
  obtain ⟨p, l, e, R, s, m, args, below, meth, c, nL, D, ca, A, n0, ad0, Q⟩ := F
  obtain ⟨hx, hb, hml, hown, hts, hlocks, hG, hroom, hnm⟩ := cx
  intro ad H locs la hw hS ha hl
  exact lv_lsub hx hb hd (k ad H locs la hw hS ha hl)
theorem qj_land {F : qc_F} {cc : ByteArray} {own nm : String} {rF rC rS rL cells slots pc : Nat} {ls : List (Option Value)} {st : List Value} {h : qc_Pl} {x y : Int64} (cx : qc_X F cc own nm rF rC rS rL) (hd : decode cc pc = .ok (.land, 1))  (k : qc_J F cells slots (pc + 1) ls (.long (x &&& y) :: st) h) : qc_J F cells slots pc ls (.long y :: .long x :: st) h := by
  obtain ⟨p, l, e, R, s, m, args, below, meth, c, nL, D, ca, A, n0, ad0, Q⟩ := F
  obtain ⟨hx, hb, hml, hown, hts, hlocks, hG, hroom, hnm⟩ := cx
  intro ad H locs la hw hS ha hl
  exact lv_land hx hb hd (k ad H locs la hw hS ha hl)
theorem qj_lor {F : qc_F} {cc : ByteArray} {own nm : String} {rF rC rS rL cells slots pc : Nat} {ls : List (Option Value)} {st : List Value} {h : qc_Pl} {x y : Int64} (cx : qc_X F cc own nm rF rC rS rL) (hd : decode cc pc = .ok (.lor, 1))  (k : qc_J F cells slots (pc + 1) ls (.long (x ||| y) :: st) h) : qc_J F cells slots pc ls (.long y :: .long x :: st) h := by
  obtain ⟨p, l, e, R, s, m, args, below, meth, c, nL, D, ca, A, n0, ad0, Q⟩ := F
  obtain ⟨hx, hb, hml, hown, hts, hlocks, hG, hroom, hnm⟩ := cx
  intro ad H locs la hw hS ha hl
  exact lv_lor hx hb hd (k ad H locs la hw hS ha hl)
theorem qj_lxor {F : qc_F} {cc : ByteArray} {own nm : String} {rF rC rS rL cells slots pc : Nat} {ls : List (Option Value)} {st : List Value} {h : qc_Pl} {x y : Int64} (cx : qc_X F cc own nm rF rC rS rL) (hd : decode cc pc = .ok (.lxor, 1))  (k : qc_J F cells slots (pc + 1) ls (.long (x ^^^ y) :: st) h) : qc_J F cells slots pc ls (.long y :: .long x :: st) h := by
  obtain ⟨p, l, e, R, s, m, args, below, meth, c, nL, D, ca, A, n0, ad0, Q⟩ := F
  obtain ⟨hx, hb, hml, hown, hts, hlocks, hG, hroom, hnm⟩ := cx
  intro ad H locs la hw hS ha hl
  exact lv_lxor hx hb hd (k ad H locs la hw hS ha hl)
theorem qj_lshl {F : qc_F} {cc : ByteArray} {own nm : String} {rF rC rS rL cells slots pc : Nat} {ls : List (Option Value)} {st : List Value} {h : qc_Pl} {x : Int64} {y : Int32} (cx : qc_X F cc own nm rF rC rS rL) (hd : decode cc pc = .ok (.lshl, 1))  (k : qc_J F cells slots (pc + 1) ls (.long (x <<< (y.toInt64 &&& 63)) :: st) h) : qc_J F cells slots pc ls (.int y :: .long x :: st) h := by
  obtain ⟨p, l, e, R, s, m, args, below, meth, c, nL, D, ca, A, n0, ad0, Q⟩ := F
  obtain ⟨hx, hb, hml, hown, hts, hlocks, hG, hroom, hnm⟩ := cx
  intro ad H locs la hw hS ha hl
  exact lv_lshl hx hb hd rfl (k ad H locs la hw hS ha hl)
theorem qj_lshr {F : qc_F} {cc : ByteArray} {own nm : String} {rF rC rS rL cells slots pc : Nat} {ls : List (Option Value)} {st : List Value} {h : qc_Pl} {x : Int64} {y : Int32} (cx : qc_X F cc own nm rF rC rS rL) (hd : decode cc pc = .ok (.lshr, 1))  (k : qc_J F cells slots (pc + 1) ls (.long (x >>> (y.toInt64 &&& 63)) :: st) h) : qc_J F cells slots pc ls (.int y :: .long x :: st) h := by
  obtain ⟨p, l, e, R, s, m, args, below, meth, c, nL, D, ca, A, n0, ad0, Q⟩ := F
  obtain ⟨hx, hb, hml, hown, hts, hlocks, hG, hroom, hnm⟩ := cx
  intro ad H locs la hw hS ha hl
  exact lv_lshr hx hb hd rfl (k ad H locs la hw hS ha hl)
theorem qj_lushr {F : qc_F} {cc : ByteArray} {own nm : String} {rF rC rS rL cells slots pc : Nat} {ls : List (Option Value)} {st : List Value} {h : qc_Pl} {x : Int64} {y : Int32} (cx : qc_X F cc own nm rF rC rS rL) (hd : decode cc pc = .ok (.lushr, 1))  (k : qc_J F cells slots (pc + 1) ls (.long ((x.toUInt64 >>> (y.toInt64.toUInt64 &&& Int64.toUInt64 63)).toInt64) :: st) h) : qc_J F cells slots pc ls (.int y :: .long x :: st) h := by
  obtain ⟨p, l, e, R, s, m, args, below, meth, c, nL, D, ca, A, n0, ad0, Q⟩ := F
  obtain ⟨hx, hb, hml, hown, hts, hlocks, hG, hroom, hnm⟩ := cx
  intro ad H locs la hw hS ha hl
  exact lv_lushr hx hb hd rfl (k ad H locs la hw hS ha hl)
theorem qj_i2l {F : qc_F} {cc : ByteArray} {own nm : String} {rF rC rS rL cells slots pc : Nat} {ls : List (Option Value)} {st : List Value} {h : qc_Pl} {x : Int32} (cx : qc_X F cc own nm rF rC rS rL) (hd : decode cc pc = .ok (.i2l, 1))  (k : qc_J F cells slots (pc + 1) ls (.long x.toInt64 :: st) h) : qc_J F cells slots pc ls (.int x :: st) h := by
  obtain ⟨p, l, e, R, s, m, args, below, meth, c, nL, D, ca, A, n0, ad0, Q⟩ := F
  obtain ⟨hx, hb, hml, hown, hts, hlocks, hG, hroom, hnm⟩ := cx
  intro ad H locs la hw hS ha hl
  exact lv_i2l hx hb hd rfl (k ad H locs la hw hS ha hl)
theorem qj_l2i {F : qc_F} {cc : ByteArray} {own nm : String} {rF rC rS rL cells slots pc : Nat} {ls : List (Option Value)} {st : List Value} {h : qc_Pl} {x : Int64} (cx : qc_X F cc own nm rF rC rS rL) (hd : decode cc pc = .ok (.l2i, 1))  (k : qc_J F cells slots (pc + 1) ls (.int x.toInt32 :: st) h) : qc_J F cells slots pc ls (.long x :: st) h := by
  obtain ⟨p, l, e, R, s, m, args, below, meth, c, nL, D, ca, A, n0, ad0, Q⟩ := F
  obtain ⟨hx, hb, hml, hown, hts, hlocks, hG, hroom, hnm⟩ := cx
  intro ad H locs la hw hS ha hl
  exact lv_l2i hx hb hd rfl (k ad H locs la hw hS ha hl)
theorem qj_i2c {F : qc_F} {cc : ByteArray} {own nm : String} {rF rC rS rL cells slots pc : Nat} {ls : List (Option Value)} {st : List Value} {h : qc_Pl} {x : Int32} (cx : qc_X F cc own nm rF rC rS rL) (hd : decode cc pc = .ok (.i2c, 1))  (k : qc_J F cells slots (pc + 1) ls (.int (x.toUInt32 % 65536).toInt32 :: st) h) : qc_J F cells slots pc ls (.int x :: st) h := by
  obtain ⟨p, l, e, R, s, m, args, below, meth, c, nL, D, ca, A, n0, ad0, Q⟩ := F
  obtain ⟨hx, hb, hml, hown, hts, hlocks, hG, hroom, hnm⟩ := cx
  intro ad H locs la hw hS ha hl
  exact lv_i2c hx hb hd rfl (k ad H locs la hw hS ha hl)
theorem qj_lcmp {F : qc_F} {cc : ByteArray} {own nm : String} {rF rC rS rL cells slots pc : Nat} {ls : List (Option Value)} {st : List Value} {h : qc_Pl} {x y : Int64} (cx : qc_X F cc own nm rF rC rS rL) (hd : decode cc pc = .ok (.lcmp, 1))  (k : qc_J F cells slots (pc + 1) ls (.int (lg_cmp x y) :: st) h) : qc_J F cells slots pc ls (.long y :: .long x :: st) h := by
  obtain ⟨p, l, e, R, s, m, args, below, meth, c, nL, D, ca, A, n0, ad0, Q⟩ := F
  obtain ⟨hx, hb, hml, hown, hts, hlocks, hG, hroom, hnm⟩ := cx
  intro ad H locs la hw hS ha hl
  exact W.lcmp hx hb hd (k ad H locs la hw hS ha hl)
theorem qj_dup {F : qc_F} {cc : ByteArray} {own nm : String} {rF rC rS rL cells slots pc : Nat} {ls : List (Option Value)} {st : List Value} {h : qc_Pl} {v : Value} (cx : qc_X F cc own nm rF rC rS rL) (hd : decode cc pc = .ok (.dup, 1)) (hv : v.category = 1) (k : qc_J F cells slots (pc + 1) ls (v :: v :: st) h) : qc_J F cells slots pc ls (v :: st) h := by
  obtain ⟨p, l, e, R, s, m, args, below, meth, c, nL, D, ca, A, n0, ad0, Q⟩ := F
  obtain ⟨hx, hb, hml, hown, hts, hlocks, hG, hroom, hnm⟩ := cx
  intro ad H locs la hw hS ha hl
  exact lv_dup hx hb hd (by rw [qc_rv_cat]; exact hv) (k ad H locs la hw hS ha hl)
theorem qj_dup_x1 {F : qc_F} {cc : ByteArray} {own nm : String} {rF rC rS rL cells slots pc : Nat} {ls : List (Option Value)} {st : List Value} {h : qc_Pl} {v w : Value} (cx : qc_X F cc own nm rF rC rS rL) (hd : decode cc pc = .ok (.dup_x1, 1)) (hv : v.category = 1) (hv2 : w.category = 1) (k : qc_J F cells slots (pc + 1) ls (v :: w :: v :: st) h) : qc_J F cells slots pc ls (v :: w :: st) h := by
  obtain ⟨p, l, e, R, s, m, args, below, meth, c, nL, D, ca, A, n0, ad0, Q⟩ := F
  obtain ⟨hx, hb, hml, hown, hts, hlocks, hG, hroom, hnm⟩ := cx
  intro ad H locs la hw hS ha hl
  exact lv_dup_x1 hx hb hd (by rw [qc_rv_cat]; exact hv) (by rw [qc_rv_cat]; exact hv2) (k ad H locs la hw hS ha hl)
theorem qj_dup2 {F : qc_F} {cc : ByteArray} {own nm : String} {rF rC rS rL cells slots pc : Nat} {ls : List (Option Value)} {st : List Value} {h : qc_Pl} {v w : Value} (cx : qc_X F cc own nm rF rC rS rL) (hd : decode cc pc = .ok (.dup2, 1)) (hv : v.category = 1) (hv2 : w.category = 1) (k : qc_J F cells slots (pc + 1) ls (v :: w :: v :: w :: st) h) : qc_J F cells slots pc ls (v :: w :: st) h := by
  obtain ⟨p, l, e, R, s, m, args, below, meth, c, nL, D, ca, A, n0, ad0, Q⟩ := F
  obtain ⟨hx, hb, hml, hown, hts, hlocks, hG, hroom, hnm⟩ := cx
  intro ad H locs la hw hS ha hl
  exact lv_dup2_11 hx hb hd (by rw [qc_rv_cat]; exact hv) (by rw [qc_rv_cat]; exact hv2) (k ad H locs la hw hS ha hl)
theorem qj_pop {F : qc_F} {cc : ByteArray} {own nm : String} {rF rC rS rL cells slots pc : Nat} {ls : List (Option Value)} {st : List Value} {h : qc_Pl} {v : Value} (cx : qc_X F cc own nm rF rC rS rL) (hd : decode cc pc = .ok (.pop, 1)) (hv : v.category = 1) (k : qc_J F cells slots (pc + 1) ls (st) h) : qc_J F cells slots pc ls (v :: st) h := by
  obtain ⟨p, l, e, R, s, m, args, below, meth, c, nL, D, ca, A, n0, ad0, Q⟩ := F
  obtain ⟨hx, hb, hml, hown, hts, hlocks, hG, hroom, hnm⟩ := cx
  intro ad H locs la hw hS ha hl
  exact lv_pop hx hb hd (by rw [qc_rv_cat]; exact hv) (k ad H locs la hw hS ha hl)
theorem qj_ldc {F : qc_F} {cc : ByteArray} {own nm : String} {rF rC rS rL cells slots pc : Nat} {ls : List (Option Value)} {st : List Value} {h : qc_Pl} {i : Nat} {v : Int32} (cx : qc_X F cc own nm rF rC rS rL) (hd : decode cc pc = .ok (.ldc i, 2)) (hw9 : Cond.constant own i v ∈ qc_GW) (k : qc_J F cells slots (pc + 2) ls (.int v :: st) h) : qc_J F cells slots pc ls (st) h := by
  obtain ⟨p, l, e, R, s, m, args, below, meth, c, nL, D, ca, A, n0, ad0, Q⟩ := F
  obtain ⟨hx, hb, hml, hown, hts, hlocks, hG, hroom, hnm⟩ := cx
  intro ad H locs la hw hS ha hl
  exact lv_ldc hx hb hown (hts _ hw9) hd (k ad H locs la hw hS ha hl)
theorem qj_ldc2 {F : qc_F} {cc : ByteArray} {own nm : String} {rF rC rS rL cells slots pc : Nat} {ls : List (Option Value)} {st : List Value} {h : qc_Pl} {i : Nat} {v : Int64} (cx : qc_X F cc own nm rF rC rS rL) (hd : decode cc pc = .ok (.ldc2_w i, 3)) (hw9 : Cond.constantLong own i v ∈ qc_GW) (k : qc_J F cells slots (pc + 3) ls (.long v :: st) h) : qc_J F cells slots pc ls (st) h := by
  obtain ⟨p, l, e, R, s, m, args, below, meth, c, nL, D, ca, A, n0, ad0, Q⟩ := F
  obtain ⟨hx, hb, hml, hown, hts, hlocks, hG, hroom, hnm⟩ := cx
  intro ad H locs la hw hS ha hl
  exact lv_ldc2 hx hb hown (hts _ hw9) hd (k ad H locs la hw hS ha hl)
theorem qj_ldcw {F : qc_F} {cc : ByteArray} {own nm : String} {rF rC rS rL cells slots pc : Nat} {ls : List (Option Value)} {st : List Value} {h : qc_Pl} {i : Nat} {v : Int32} (cx : qc_X F cc own nm rF rC rS rL) (hd : decode cc pc = .ok (.ldc_w i, 3)) (hw9 : Cond.constant own i v ∈ qc_GW) (k : qc_J F cells slots (pc + 3) ls (.int v :: st) h) : qc_J F cells slots pc ls (st) h := by
  obtain ⟨p, l, e, R, s, m, args, below, meth, c, nL, D, ca, A, n0, ad0, Q⟩ := F
  obtain ⟨hx, hb, hml, hown, hts, hlocks, hG, hroom, hnm⟩ := cx
  intro ad H locs la hw hS ha hl
  exact lv_ldcw hx hb hown (hts _ hw9) hd (k ad H locs la hw hS ha hl)
theorem qj_goto {F : qc_F} {cc : ByteArray} {own nm : String} {rF rC rS rL cells slots pc : Nat} {ls : List (Option Value)} {st : List Value} {h : qc_Pl} {off : Int} {tgt : Nat} (cx : qc_X F cc own nm rF rC rS rL) (hd : decode cc pc = .ok (.goto off, 3)) (ht : (pc : Int) + off = (tgt : Int)) (k : qc_J F cells slots tgt ls st h) : qc_J F cells slots pc ls st h := by
  obtain ⟨p, l, e, R, s, m, args, below, meth, c, nL, D, ca, A, n0, ad0, Q⟩ := F
  obtain ⟨hx, hb, hml, hown, hts, hlocks, hG, hroom, hnm⟩ := cx
  intro ad H locs la hw hS ha hl
  exact lv_goto hx hb hd ht (k ad H locs la hw hS ha hl)
theorem qj_if_eq {F : qc_F} {cc : ByteArray} {own nm : String} {rF rC rS rL cells slots pc : Nat} {ls : List (Option Value)} {st : List Value} {h : qc_Pl} {x : Int32} {off : Int} {tgt : Nat} (cx : qc_X F cc own nm rF rC rS rL) (hd : decode cc pc = .ok (.ifCond .eq off, 3)) (ht : (pc : Int) + off = (tgt : Int)) (kt : x = 0 → qc_J F cells slots tgt ls st h) (kf : ¬ x = 0 → qc_J F cells slots (pc + 3) ls st h) : qc_J F cells slots pc ls (.int x :: st) h := by
  obtain ⟨p, l, e, R, s, m, args, below, meth, c, nL, D, ca, A, n0, ad0, Q⟩ := F
  obtain ⟨hx, hb, hml, hown, hts, hlocks, hG, hroom, hnm⟩ := cx
  intro ad H locs la hw hS ha hl
  exact lv_if_eq hx hb hd ht (fun q => kt q ad H locs la hw hS ha hl) (fun q => kf q ad H locs la hw hS ha hl)
theorem qj_if_ne {F : qc_F} {cc : ByteArray} {own nm : String} {rF rC rS rL cells slots pc : Nat} {ls : List (Option Value)} {st : List Value} {h : qc_Pl} {x : Int32} {off : Int} {tgt : Nat} (cx : qc_X F cc own nm rF rC rS rL) (hd : decode cc pc = .ok (.ifCond .ne off, 3)) (ht : (pc : Int) + off = (tgt : Int)) (kt : ¬ x = 0 → qc_J F cells slots tgt ls st h) (kf : x = 0 → qc_J F cells slots (pc + 3) ls st h) : qc_J F cells slots pc ls (.int x :: st) h := by
  obtain ⟨p, l, e, R, s, m, args, below, meth, c, nL, D, ca, A, n0, ad0, Q⟩ := F
  obtain ⟨hx, hb, hml, hown, hts, hlocks, hG, hroom, hnm⟩ := cx
  intro ad H locs la hw hS ha hl
  exact lv_if_ne hx hb hd ht (fun q => kt q ad H locs la hw hS ha hl) (fun q => kf q ad H locs la hw hS ha hl)
theorem qj_if_lt {F : qc_F} {cc : ByteArray} {own nm : String} {rF rC rS rL cells slots pc : Nat} {ls : List (Option Value)} {st : List Value} {h : qc_Pl} {x : Int32} {off : Int} {tgt : Nat} (cx : qc_X F cc own nm rF rC rS rL) (hd : decode cc pc = .ok (.ifCond .lt off, 3)) (ht : (pc : Int) + off = (tgt : Int)) (kt : x < 0 → qc_J F cells slots tgt ls st h) (kf : ¬ x < 0 → qc_J F cells slots (pc + 3) ls st h) : qc_J F cells slots pc ls (.int x :: st) h := by
  obtain ⟨p, l, e, R, s, m, args, below, meth, c, nL, D, ca, A, n0, ad0, Q⟩ := F
  obtain ⟨hx, hb, hml, hown, hts, hlocks, hG, hroom, hnm⟩ := cx
  intro ad H locs la hw hS ha hl
  exact lv_if_lt hx hb hd ht (fun q => kt q ad H locs la hw hS ha hl) (fun q => kf q ad H locs la hw hS ha hl)
theorem qj_if_ge {F : qc_F} {cc : ByteArray} {own nm : String} {rF rC rS rL cells slots pc : Nat} {ls : List (Option Value)} {st : List Value} {h : qc_Pl} {x : Int32} {off : Int} {tgt : Nat} (cx : qc_X F cc own nm rF rC rS rL) (hd : decode cc pc = .ok (.ifCond .ge off, 3)) (ht : (pc : Int) + off = (tgt : Int)) (kt : 0 ≤ x → qc_J F cells slots tgt ls st h) (kf : ¬ 0 ≤ x → qc_J F cells slots (pc + 3) ls st h) : qc_J F cells slots pc ls (.int x :: st) h := by
  obtain ⟨p, l, e, R, s, m, args, below, meth, c, nL, D, ca, A, n0, ad0, Q⟩ := F
  obtain ⟨hx, hb, hml, hown, hts, hlocks, hG, hroom, hnm⟩ := cx
  intro ad H locs la hw hS ha hl
  exact lv_if_ge hx hb hd ht (fun q => kt q ad H locs la hw hS ha hl) (fun q => kf q ad H locs la hw hS ha hl)
theorem qj_if_gt {F : qc_F} {cc : ByteArray} {own nm : String} {rF rC rS rL cells slots pc : Nat} {ls : List (Option Value)} {st : List Value} {h : qc_Pl} {x : Int32} {off : Int} {tgt : Nat} (cx : qc_X F cc own nm rF rC rS rL) (hd : decode cc pc = .ok (.ifCond .gt off, 3)) (ht : (pc : Int) + off = (tgt : Int)) (kt : 0 < x → qc_J F cells slots tgt ls st h) (kf : ¬ 0 < x → qc_J F cells slots (pc + 3) ls st h) : qc_J F cells slots pc ls (.int x :: st) h := by
  obtain ⟨p, l, e, R, s, m, args, below, meth, c, nL, D, ca, A, n0, ad0, Q⟩ := F
  obtain ⟨hx, hb, hml, hown, hts, hlocks, hG, hroom, hnm⟩ := cx
  intro ad H locs la hw hS ha hl
  exact lv_if_gt hx hb hd ht (fun q => kt q ad H locs la hw hS ha hl) (fun q => kf q ad H locs la hw hS ha hl)
theorem qj_if_le {F : qc_F} {cc : ByteArray} {own nm : String} {rF rC rS rL cells slots pc : Nat} {ls : List (Option Value)} {st : List Value} {h : qc_Pl} {x : Int32} {off : Int} {tgt : Nat} (cx : qc_X F cc own nm rF rC rS rL) (hd : decode cc pc = .ok (.ifCond .le off, 3)) (ht : (pc : Int) + off = (tgt : Int)) (kt : x ≤ 0 → qc_J F cells slots tgt ls st h) (kf : ¬ x ≤ 0 → qc_J F cells slots (pc + 3) ls st h) : qc_J F cells slots pc ls (.int x :: st) h := by
  obtain ⟨p, l, e, R, s, m, args, below, meth, c, nL, D, ca, A, n0, ad0, Q⟩ := F
  obtain ⟨hx, hb, hml, hown, hts, hlocks, hG, hroom, hnm⟩ := cx
  intro ad H locs la hw hS ha hl
  exact lv_if_le hx hb hd ht (fun q => kt q ad H locs la hw hS ha hl) (fun q => kf q ad H locs la hw hS ha hl)
theorem qj_icmp_eq {F : qc_F} {cc : ByteArray} {own nm : String} {rF rC rS rL cells slots pc : Nat} {ls : List (Option Value)} {st : List Value} {h : qc_Pl} {x y : Int32} {off : Int} {tgt : Nat} (cx : qc_X F cc own nm rF rC rS rL) (hd : decode cc pc = .ok (.if_icmp .eq off, 3)) (ht : (pc : Int) + off = (tgt : Int)) (kt : x = y → qc_J F cells slots tgt ls st h) (kf : ¬ x = y → qc_J F cells slots (pc + 3) ls st h) : qc_J F cells slots pc ls (.int y :: .int x :: st) h := by
  obtain ⟨p, l, e, R, s, m, args, below, meth, c, nL, D, ca, A, n0, ad0, Q⟩ := F
  obtain ⟨hx, hb, hml, hown, hts, hlocks, hG, hroom, hnm⟩ := cx
  intro ad H locs la hw hS ha hl
  exact lv_icmp_eq hx hb hd ht (fun q => kt q ad H locs la hw hS ha hl) (fun q => kf q ad H locs la hw hS ha hl)
theorem qj_icmp_ne {F : qc_F} {cc : ByteArray} {own nm : String} {rF rC rS rL cells slots pc : Nat} {ls : List (Option Value)} {st : List Value} {h : qc_Pl} {x y : Int32} {off : Int} {tgt : Nat} (cx : qc_X F cc own nm rF rC rS rL) (hd : decode cc pc = .ok (.if_icmp .ne off, 3)) (ht : (pc : Int) + off = (tgt : Int)) (kt : ¬ x = y → qc_J F cells slots tgt ls st h) (kf : x = y → qc_J F cells slots (pc + 3) ls st h) : qc_J F cells slots pc ls (.int y :: .int x :: st) h := by
  obtain ⟨p, l, e, R, s, m, args, below, meth, c, nL, D, ca, A, n0, ad0, Q⟩ := F
  obtain ⟨hx, hb, hml, hown, hts, hlocks, hG, hroom, hnm⟩ := cx
  intro ad H locs la hw hS ha hl
  exact lv_icmp_ne hx hb hd ht (fun q => kt q ad H locs la hw hS ha hl) (fun q => kf q ad H locs la hw hS ha hl)
theorem qj_icmp_lt {F : qc_F} {cc : ByteArray} {own nm : String} {rF rC rS rL cells slots pc : Nat} {ls : List (Option Value)} {st : List Value} {h : qc_Pl} {x y : Int32} {off : Int} {tgt : Nat} (cx : qc_X F cc own nm rF rC rS rL) (hd : decode cc pc = .ok (.if_icmp .lt off, 3)) (ht : (pc : Int) + off = (tgt : Int)) (kt : x < y → qc_J F cells slots tgt ls st h) (kf : ¬ x < y → qc_J F cells slots (pc + 3) ls st h) : qc_J F cells slots pc ls (.int y :: .int x :: st) h := by
  obtain ⟨p, l, e, R, s, m, args, below, meth, c, nL, D, ca, A, n0, ad0, Q⟩ := F
  obtain ⟨hx, hb, hml, hown, hts, hlocks, hG, hroom, hnm⟩ := cx
  intro ad H locs la hw hS ha hl
  exact lv_icmp_lt hx hb hd ht (fun q => kt q ad H locs la hw hS ha hl) (fun q => kf q ad H locs la hw hS ha hl)
theorem qj_icmp_ge {F : qc_F} {cc : ByteArray} {own nm : String} {rF rC rS rL cells slots pc : Nat} {ls : List (Option Value)} {st : List Value} {h : qc_Pl} {x y : Int32} {off : Int} {tgt : Nat} (cx : qc_X F cc own nm rF rC rS rL) (hd : decode cc pc = .ok (.if_icmp .ge off, 3)) (ht : (pc : Int) + off = (tgt : Int)) (kt : y ≤ x → qc_J F cells slots tgt ls st h) (kf : ¬ y ≤ x → qc_J F cells slots (pc + 3) ls st h) : qc_J F cells slots pc ls (.int y :: .int x :: st) h := by
  obtain ⟨p, l, e, R, s, m, args, below, meth, c, nL, D, ca, A, n0, ad0, Q⟩ := F
  obtain ⟨hx, hb, hml, hown, hts, hlocks, hG, hroom, hnm⟩ := cx
  intro ad H locs la hw hS ha hl
  exact lv_icmp_ge hx hb hd ht (fun q => kt q ad H locs la hw hS ha hl) (fun q => kf q ad H locs la hw hS ha hl)
theorem qj_icmp_gt {F : qc_F} {cc : ByteArray} {own nm : String} {rF rC rS rL cells slots pc : Nat} {ls : List (Option Value)} {st : List Value} {h : qc_Pl} {x y : Int32} {off : Int} {tgt : Nat} (cx : qc_X F cc own nm rF rC rS rL) (hd : decode cc pc = .ok (.if_icmp .gt off, 3)) (ht : (pc : Int) + off = (tgt : Int)) (kt : y < x → qc_J F cells slots tgt ls st h) (kf : ¬ y < x → qc_J F cells slots (pc + 3) ls st h) : qc_J F cells slots pc ls (.int y :: .int x :: st) h := by
  obtain ⟨p, l, e, R, s, m, args, below, meth, c, nL, D, ca, A, n0, ad0, Q⟩ := F
  obtain ⟨hx, hb, hml, hown, hts, hlocks, hG, hroom, hnm⟩ := cx
  intro ad H locs la hw hS ha hl
  exact lv_icmp_gt hx hb hd ht (fun q => kt q ad H locs la hw hS ha hl) (fun q => kf q ad H locs la hw hS ha hl)
theorem qj_icmp_le {F : qc_F} {cc : ByteArray} {own nm : String} {rF rC rS rL cells slots pc : Nat} {ls : List (Option Value)} {st : List Value} {h : qc_Pl} {x y : Int32} {off : Int} {tgt : Nat} (cx : qc_X F cc own nm rF rC rS rL) (hd : decode cc pc = .ok (.if_icmp .le off, 3)) (ht : (pc : Int) + off = (tgt : Int)) (kt : x ≤ y → qc_J F cells slots tgt ls st h) (kf : ¬ x ≤ y → qc_J F cells slots (pc + 3) ls st h) : qc_J F cells slots pc ls (.int y :: .int x :: st) h := by
  obtain ⟨p, l, e, R, s, m, args, below, meth, c, nL, D, ca, A, n0, ad0, Q⟩ := F
  obtain ⟨hx, hb, hml, hown, hts, hlocks, hG, hroom, hnm⟩ := cx
  intro ad H locs la hw hS ha hl
  exact lv_icmp_le hx hb hd ht (fun q => kt q ad H locs la hw hS ha hl) (fun q => kf q ad H locs la hw hS ha hl)
theorem qj_lookup {F : qc_F} {cc : ByteArray} {own nm : String} {rF rC rS rL cells slots pc : Nat} {ls : List (Option Value)} {st : List Value} {h : qc_Pl} {dflt : Int} {ps : Array (Int × Int)} {len : Nat} {x : Int32} {off : Int} {tgt : Nat} (cx : qc_X F cc own nm rF rC rS rL) (hd : decode cc pc = .ok (.lookupswitch dflt ps, len)) (hp : (ps.toList.zip (ps.toList.drop 1)).all (fun (a, next) => a.1 < next.1) = true) (ho : Op.lookupswitch.offset ps.toList dflt x.toInt = off) (ht : (pc : Int) + off = (tgt : Int)) (k : qc_J F cells slots tgt ls st h) : qc_J F cells slots pc ls (.int x :: st) h := by
  obtain ⟨p, l, e, R, s, m, args, below, meth, c, nL, D, ca, A, n0, ad0, Q⟩ := F
  obtain ⟨hx, hb, hml, hown, hts, hlocks, hG, hroom, hnm⟩ := cx
  intro ad H locs la hw hS ha hl
  exact lv_lookup hx hb hd hp ho ht (k ad H locs la hw hS ha hl)
theorem qj_tableOut {F : qc_F} {cc : ByteArray} {own nm : String} {rF rC rS rL cells slots pc : Nat} {ls : List (Option Value)} {st : List Value} {h : qc_Pl} {dflt lo hi : Int} {offs : Array Int} {len : Nat} {x : Int32} {tgt : Nat} (cx : qc_X F cc own nm rF rC rS rL) (hd : decode cc pc = .ok (.tableswitch dflt lo hi offs, len)) (hq : x.toInt < lo ∨ hi < x.toInt) (ht : (pc : Int) + dflt = (tgt : Int)) (k : qc_J F cells slots tgt ls st h) : qc_J F cells slots pc ls (.int x :: st) h := by
  obtain ⟨p, l, e, R, s, m, args, below, meth, c, nL, D, ca, A, n0, ad0, Q⟩ := F
  obtain ⟨hx, hb, hml, hown, hts, hlocks, hG, hroom, hnm⟩ := cx
  intro ad H locs la hw hS ha hl
  exact lv_tableOut hx hb hd hq ht (k ad H locs la hw hS ha hl)
theorem qj_tableIn {F : qc_F} {cc : ByteArray} {own nm : String} {rF rC rS rL cells slots pc : Nat} {ls : List (Option Value)} {st : List Value} {h : qc_Pl} {dflt lo hi : Int} {offs : Array Int} {len : Nat} {x : Int32} {off : Int} {tgt : Nat} (cx : qc_X F cc own nm rF rC rS rL) (hd : decode cc pc = .ok (.tableswitch dflt lo hi offs, len)) (h1 : ¬ x.toInt < lo) (h2 : ¬ hi < x.toInt) (ho : offs[(x.toInt - lo).toNat]? = some off) (ht : (pc : Int) + off = (tgt : Int)) (k : qc_J F cells slots tgt ls st h) : qc_J F cells slots pc ls (.int x :: st) h := by
  obtain ⟨p, l, e, R, s, m, args, below, meth, c, nL, D, ca, A, n0, ad0, Q⟩ := F
  obtain ⟨hx, hb, hml, hown, hts, hlocks, hG, hroom, hnm⟩ := cx
  intro ad H locs la hw hS ha hl
  exact lv_tableIn hx hb hd h1 h2 ho ht (k ad H locs la hw hS ha hl)
/-- a class of vwCl: its words, its fields' types -/
def qc_cl (k : Nat) (C : String) (T : u_T) (N : Nat) (tyf : Nat → FieldType) : Prop := k < 8 ∧ vwCl[k]? = some (C, T, N) ∧ (∀ w ∈ u_ws C T N, w ∈ qc_GW) ∧ N = (qc_fl k).length ∧ (∀ j, j < N → parseFieldDescriptor (T j).2.2.1 = some (tyf j)) ∧ (∀ a, a < N → ∀ b, b < N → a ≠ b → (T a).2.1 ≠ (T b).2.1)
theorem qc_gt {l : List Nat} {j v : Nat} (h : l[j]? = some v) : l.getD j 0 = v := by rw [List.getD_eq_getElem?_getD, h]; rfl
theorem qj_getI {F : qc_F} {cc : ByteArray} {own nm : String} {rF rC rS rL cells slots pc : Nat} {ls : List (Option Value)} {st : List Value} {h : qc_Pl} {C : String} {T : u_T} {N : Nat} {tyf : Nat → FieldType} {kk t j idx : Nat} (cx : qc_X F cc own nm rF rC rS rL)  (hd : decode cc pc = .ok (.getfield idx, 3)) (hcl : qc_cl kk C T N tyf) (hk : qc_K h t = kk) (ht : t < qc_n h) (hj : (qc_fl kk)[j]? = some 0) (hf : Cond.fieldLink own idx (T j).1 (T j).2.1 (T j).2.2.1 ∈ qc_GW)  (k : qc_J F cells slots (pc + 3) ls (.int (h.1 t j) :: st) h) : qc_J F cells slots pc ls (.ref t :: st) h := by
  obtain ⟨p, l, e, R, s, m, args, below, meth, c, nL, D, ca, A, n0, ad0, Q⟩ := F
  obtain ⟨hx, hb, hml, hown, hts, hlocks, hG, hroom, hnm⟩ := cx
  obtain ⟨h8, hc, hin, hN, -, -⟩ := hcl
  intro ad H locs la hw hS ha hl
  have hjl : j < (qc_fl kk).length := (List.getElem?_eq_some_iff.mp hj).1
  refine va_get (v := .int (h.1 t j)) (C := C) (T := T) (N := N) hx hb hts hin hown hG.1 hw.1 t ((qc_W_at ht).trans (by rw [qc_E_obj hk h8])) hc j (by omega) (hts _ hf) (fun _ z => z) ?_ hd (k ad H locs la hw hS ha hl)
  rw [qc_fs_at hk hjl, qc_gt hj]
  rfl
theorem qj_getJ {F : qc_F} {cc : ByteArray} {own nm : String} {rF rC rS rL cells slots pc : Nat} {ls : List (Option Value)} {st : List Value} {h : qc_Pl} {C : String} {T : u_T} {N : Nat} {tyf : Nat → FieldType} {kk t j idx : Nat} (cx : qc_X F cc own nm rF rC rS rL)  (hd : decode cc pc = .ok (.getfield idx, 3)) (hcl : qc_cl kk C T N tyf) (hk : qc_K h t = kk) (ht : t < qc_n h) (hj : (qc_fl kk)[j]? = some 1) (hf : Cond.fieldLink own idx (T j).1 (T j).2.1 (T j).2.2.1 ∈ qc_GW)  (k : qc_J F cells slots (pc + 3) ls (.long (h.2.1 t j) :: st) h) : qc_J F cells slots pc ls (.ref t :: st) h := by
  obtain ⟨p, l, e, R, s, m, args, below, meth, c, nL, D, ca, A, n0, ad0, Q⟩ := F
  obtain ⟨hx, hb, hml, hown, hts, hlocks, hG, hroom, hnm⟩ := cx
  obtain ⟨h8, hc, hin, hN, -, -⟩ := hcl
  intro ad H locs la hw hS ha hl
  have hjl : j < (qc_fl kk).length := (List.getElem?_eq_some_iff.mp hj).1
  refine va_get (v := .long (h.2.1 t j)) (C := C) (T := T) (N := N) hx hb hts hin hown hG.1 hw.1 t ((qc_W_at ht).trans (by rw [qc_E_obj hk h8])) hc j (by omega) (hts _ hf) (fun _ z => z) ?_ hd (k ad H locs la hw hS ha hl)
  rw [qc_fs_at hk hjl, qc_gt hj]
  rfl
theorem qj_getR {F : qc_F} {cc : ByteArray} {own nm : String} {rF rC rS rL cells slots pc : Nat} {ls : List (Option Value)} {st : List Value} {h : qc_Pl} {C : String} {T : u_T} {N : Nat} {tyf : Nat → FieldType} {kk t j idx : Nat} {t1 : Nat} (cx : qc_X F cc own nm rF rC rS rL)  (hd : decode cc pc = .ok (.getfield idx, 3)) (hcl : qc_cl kk C T N tyf) (hk : qc_K h t = kk) (ht : t < qc_n h) (hj : (qc_fl kk)[j]? = some 2) (hf : Cond.fieldLink own idx (T j).1 (T j).2.1 (T j).2.2.1 ∈ qc_GW) (hr : qc_R h t j = some t1) (k : qc_J F cells slots (pc + 3) ls (.ref t1 :: st) h) : qc_J F cells slots pc ls (.ref t :: st) h := by
  obtain ⟨p, l, e, R, s, m, args, below, meth, c, nL, D, ca, A, n0, ad0, Q⟩ := F
  obtain ⟨hx, hb, hml, hown, hts, hlocks, hG, hroom, hnm⟩ := cx
  obtain ⟨h8, hc, hin, hN, -, -⟩ := hcl
  intro ad H locs la hw hS ha hl
  have hjl : j < (qc_fl kk).length := (List.getElem?_eq_some_iff.mp hj).1
  refine va_get (v := .ref (ad t1)) (C := C) (T := T) (N := N) hx hb hts hin hown hG.1 hw.1 t ((qc_W_at ht).trans (by rw [qc_E_obj hk h8])) hc j (by omega) (hts _ hf) (fun _ z => z) ?_ hd (k ad H locs la hw hS ha hl)
  rw [qc_fs_at hk hjl, qc_gt hj]
  show some (va_rf ((qc_R h t j).map ad)) = _
  rw [hr]
  rfl
theorem qj_putI {F : qc_F} {cc : ByteArray} {own nm : String} {rF rC rS rL cells slots pc : Nat} {ls : List (Option Value)} {st : List Value} {h : qc_Pl} {C : String} {T : u_T} {N : Nat} {tyf : Nat → FieldType} {kk t j idx : Nat} {v : Int32} (cx : qc_X F cc own nm rF rC rS rL) (hd : decode cc pc = .ok (.putfield idx, 3)) (hcl : qc_cl kk C T N tyf) (hk : qc_K h t = kk) (ht : t < qc_n h) (hj : (qc_fl kk)[j]? = some 0) (hf : Cond.fieldLink own idx (T j).1 (T j).2.1 (T j).2.2.1 ∈ qc_GW) (hn : narrow (tyf j) (.int v) = .int v) (hfit : fits (tyf j) (.int v) = true) (hfin : (T j).2.2.2 = false) (k : qc_J F cells slots (pc + 3) ls st (qc_sI h t j v)) : qc_J F cells slots pc ls (.int v :: .ref t :: st) h := by
  obtain ⟨p, l, e, R, s, m, args, below, meth, c, nL, D, ca, A, n0, ad0, Q⟩ := F
  obtain ⟨hx, hb, hml, hown, hts, hlocks, hG, hroom, hnm⟩ := cx
  obtain ⟨h8, hc, hin, hN, hty, hnn⟩ := hcl
  intro ad H locs la hw hS ha hl
  have hjl : j < (qc_fl kk).length := (List.getElem?_eq_some_iff.mp hj).1
  have hjN : j < N := by omega
  have he : (qc_W ca ad h).set t (ad t, .inr (kk, (qc_fs ad h t).set j (.int v))) = qc_W ca ad (qc_sI h t j v) := qc_W_set rfl ht (qc_sI_obj hk h8 (qc_gt hj)) qc_sI_ne
  refine va_put (ty := tyf j) (v := .int v) (C := C) (T := T) (N := N) hx hb hts hin tyf hty hnn hown hG.1 hw.1 hw.2 hS t ((qc_W_at ht).trans (by rw [qc_E_obj hk h8])) hc j hjN (hts _ hf) (fun _ z => z) hfin (hty j hjN) (hn) (hfit) (by rw [qc_fs_len, hk]; exact hjl) hd (fun H1 locs1 hP hD hS => ?_)
  rw [he] at hP hD
  exact k ad H1 locs1 la ⟨hP, hD⟩ hS ha hl
theorem qj_putIF {F : qc_F} {cc : ByteArray} {own nm : String} {rF rC rS rL cells slots pc : Nat} {ls : List (Option Value)} {st : List Value} {h : qc_Pl} {C : String} {T : u_T} {N : Nat} {tyf : Nat → FieldType} {kk t j idx : Nat} {v : Int32} (cx : qc_X F cc own nm rF rC rS rL) (hd : decode cc pc = .ok (.putfield idx, 3)) (hcl : qc_cl kk C T N tyf) (hk : qc_K h t = kk) (ht : t < qc_n h) (hj : (qc_fl kk)[j]? = some 0) (hf : Cond.fieldLink own idx (T j).1 (T j).2.1 (T j).2.2.1 ∈ qc_GW) (hn : narrow (tyf j) (.int v) = .int v) (hfit : fits (tyf j) (.int v) = true) (hfin : (T j).2.2.2 = true) (hnm9 : nm = "<init>") (hdecl : (T j).1 = own) (k : qc_J F cells slots (pc + 3) ls st (qc_sI h t j v)) : qc_J F cells slots pc ls (.int v :: .ref t :: st) h := by
  obtain ⟨p, l, e, R, s, m, args, below, meth, c, nL, D, ca, A, n0, ad0, Q⟩ := F
  obtain ⟨hx, hb, hml, hown, hts, hlocks, hG, hroom, hnm⟩ := cx
  obtain ⟨h8, hc, hin, hN, hty, hnn⟩ := hcl
  intro ad H locs la hw hS ha hl
  have hjl : j < (qc_fl kk).length := (List.getElem?_eq_some_iff.mp hj).1
  have hjN : j < N := by omega
  have he : (qc_W ca ad h).set t (ad t, .inr (kk, (qc_fs ad h t).set j (.int v))) = qc_W ca ad (qc_sI h t j v) := qc_W_set rfl ht (qc_sI_obj hk h8 (qc_gt hj)) qc_sI_ne
  refine va_putF (ty := tyf j) (v := .int v) (C := C) (T := T) (N := N) hx hb hts hin tyf hty hnn hown hG.1 hw.1 hw.2 hS t ((qc_W_at ht).trans (by rw [qc_E_obj hk h8])) hc j hjN (hts _ hf) (fun _ z => z) hfin (hnm.trans hnm9) hdecl (hty j hjN) (hn) (hfit) (by rw [qc_fs_len, hk]; exact hjl) hd (fun H1 locs1 hP hD hS => ?_)
  rw [he] at hP hD
  exact k ad H1 locs1 la ⟨hP, hD⟩ hS ha hl
theorem qj_putJ {F : qc_F} {cc : ByteArray} {own nm : String} {rF rC rS rL cells slots pc : Nat} {ls : List (Option Value)} {st : List Value} {h : qc_Pl} {C : String} {T : u_T} {N : Nat} {tyf : Nat → FieldType} {kk t j idx : Nat} {v : Int64} (cx : qc_X F cc own nm rF rC rS rL) (hd : decode cc pc = .ok (.putfield idx, 3)) (hcl : qc_cl kk C T N tyf) (hk : qc_K h t = kk) (ht : t < qc_n h) (hj : (qc_fl kk)[j]? = some 1) (hf : Cond.fieldLink own idx (T j).1 (T j).2.1 (T j).2.2.1 ∈ qc_GW) (hn : narrow (tyf j) (.long v) = .long v) (hfit : fits (tyf j) (.long v) = true) (hfin : (T j).2.2.2 = false) (k : qc_J F cells slots (pc + 3) ls st (qc_sJ h t j v)) : qc_J F cells slots pc ls (.long v :: .ref t :: st) h := by
  obtain ⟨p, l, e, R, s, m, args, below, meth, c, nL, D, ca, A, n0, ad0, Q⟩ := F
  obtain ⟨hx, hb, hml, hown, hts, hlocks, hG, hroom, hnm⟩ := cx
  obtain ⟨h8, hc, hin, hN, hty, hnn⟩ := hcl
  intro ad H locs la hw hS ha hl
  have hjl : j < (qc_fl kk).length := (List.getElem?_eq_some_iff.mp hj).1
  have hjN : j < N := by omega
  have he : (qc_W ca ad h).set t (ad t, .inr (kk, (qc_fs ad h t).set j (.long v))) = qc_W ca ad (qc_sJ h t j v) := qc_W_set rfl ht (qc_sJ_obj hk h8 (qc_gt hj)) qc_sJ_ne
  refine va_put (ty := tyf j) (v := .long v) (C := C) (T := T) (N := N) hx hb hts hin tyf hty hnn hown hG.1 hw.1 hw.2 hS t ((qc_W_at ht).trans (by rw [qc_E_obj hk h8])) hc j hjN (hts _ hf) (fun _ z => z) hfin (hty j hjN) (hn) (hfit) (by rw [qc_fs_len, hk]; exact hjl) hd (fun H1 locs1 hP hD hS => ?_)
  rw [he] at hP hD
  exact k ad H1 locs1 la ⟨hP, hD⟩ hS ha hl
theorem qj_putJF {F : qc_F} {cc : ByteArray} {own nm : String} {rF rC rS rL cells slots pc : Nat} {ls : List (Option Value)} {st : List Value} {h : qc_Pl} {C : String} {T : u_T} {N : Nat} {tyf : Nat → FieldType} {kk t j idx : Nat} {v : Int64} (cx : qc_X F cc own nm rF rC rS rL) (hd : decode cc pc = .ok (.putfield idx, 3)) (hcl : qc_cl kk C T N tyf) (hk : qc_K h t = kk) (ht : t < qc_n h) (hj : (qc_fl kk)[j]? = some 1) (hf : Cond.fieldLink own idx (T j).1 (T j).2.1 (T j).2.2.1 ∈ qc_GW) (hn : narrow (tyf j) (.long v) = .long v) (hfit : fits (tyf j) (.long v) = true) (hfin : (T j).2.2.2 = true) (hnm9 : nm = "<init>") (hdecl : (T j).1 = own) (k : qc_J F cells slots (pc + 3) ls st (qc_sJ h t j v)) : qc_J F cells slots pc ls (.long v :: .ref t :: st) h := by
  obtain ⟨p, l, e, R, s, m, args, below, meth, c, nL, D, ca, A, n0, ad0, Q⟩ := F
  obtain ⟨hx, hb, hml, hown, hts, hlocks, hG, hroom, hnm⟩ := cx
  obtain ⟨h8, hc, hin, hN, hty, hnn⟩ := hcl
  intro ad H locs la hw hS ha hl
  have hjl : j < (qc_fl kk).length := (List.getElem?_eq_some_iff.mp hj).1
  have hjN : j < N := by omega
  have he : (qc_W ca ad h).set t (ad t, .inr (kk, (qc_fs ad h t).set j (.long v))) = qc_W ca ad (qc_sJ h t j v) := qc_W_set rfl ht (qc_sJ_obj hk h8 (qc_gt hj)) qc_sJ_ne
  refine va_putF (ty := tyf j) (v := .long v) (C := C) (T := T) (N := N) hx hb hts hin tyf hty hnn hown hG.1 hw.1 hw.2 hS t ((qc_W_at ht).trans (by rw [qc_E_obj hk h8])) hc j hjN (hts _ hf) (fun _ z => z) hfin (hnm.trans hnm9) hdecl (hty j hjN) (hn) (hfit) (by rw [qc_fs_len, hk]; exact hjl) hd (fun H1 locs1 hP hD hS => ?_)
  rw [he] at hP hD
  exact k ad H1 locs1 la ⟨hP, hD⟩ hS ha hl
theorem qj_putR {F : qc_F} {cc : ByteArray} {own nm : String} {rF rC rS rL cells slots pc : Nat} {ls : List (Option Value)} {st : List Value} {h : qc_Pl} {C : String} {T : u_T} {N : Nat} {tyf : Nat → FieldType} {kk t j idx : Nat} {v : Nat} (cx : qc_X F cc own nm rF rC rS rL) (hd : decode cc pc = .ok (.putfield idx, 3)) (hcl : qc_cl kk C T N tyf) (hk : qc_K h t = kk) (ht : t < qc_n h) (hj : (qc_fl kk)[j]? = some 2) (hf : Cond.fieldLink own idx (T j).1 (T j).2.1 (T j).2.2.1 ∈ qc_GW) (hn : ∀ a, narrow (tyf j) (.ref a) = .ref a) (hfit : ∀ a, fits (tyf j) (.ref a) = true) (hfin : (T j).2.2.2 = false) (k : qc_J F cells slots (pc + 3) ls st (qc_sR h t j (some v))) : qc_J F cells slots pc ls (.ref v :: .ref t :: st) h := by
  obtain ⟨p, l, e, R, s, m, args, below, meth, c, nL, D, ca, A, n0, ad0, Q⟩ := F
  obtain ⟨hx, hb, hml, hown, hts, hlocks, hG, hroom, hnm⟩ := cx
  obtain ⟨h8, hc, hin, hN, hty, hnn⟩ := hcl
  intro ad H locs la hw hS ha hl
  have hjl : j < (qc_fl kk).length := (List.getElem?_eq_some_iff.mp hj).1
  have hjN : j < N := by omega
  have he : (qc_W ca ad h).set t (ad t, .inr (kk, (qc_fs ad h t).set j (.ref (ad v)))) = qc_W ca ad (qc_sR h t j (some v)) := qc_W_set rfl ht (qc_sR_obj hk h8 (qc_gt hj)) qc_sR_ne
  refine va_put (ty := tyf j) (v := .ref (ad v)) (C := C) (T := T) (N := N) hx hb hts hin tyf hty hnn hown hG.1 hw.1 hw.2 hS t ((qc_W_at ht).trans (by rw [qc_E_obj hk h8])) hc j hjN (hts _ hf) (fun _ z => z) hfin (hty j hjN) (hn (ad v)) (hfit (ad v)) (by rw [qc_fs_len, hk]; exact hjl) hd (fun H1 locs1 hP hD hS => ?_)
  rw [he] at hP hD
  exact k ad H1 locs1 la ⟨hP, hD⟩ hS ha hl
theorem qj_putRF {F : qc_F} {cc : ByteArray} {own nm : String} {rF rC rS rL cells slots pc : Nat} {ls : List (Option Value)} {st : List Value} {h : qc_Pl} {C : String} {T : u_T} {N : Nat} {tyf : Nat → FieldType} {kk t j idx : Nat} {v : Nat} (cx : qc_X F cc own nm rF rC rS rL) (hd : decode cc pc = .ok (.putfield idx, 3)) (hcl : qc_cl kk C T N tyf) (hk : qc_K h t = kk) (ht : t < qc_n h) (hj : (qc_fl kk)[j]? = some 2) (hf : Cond.fieldLink own idx (T j).1 (T j).2.1 (T j).2.2.1 ∈ qc_GW) (hn : ∀ a, narrow (tyf j) (.ref a) = .ref a) (hfit : ∀ a, fits (tyf j) (.ref a) = true) (hfin : (T j).2.2.2 = true) (hnm9 : nm = "<init>") (hdecl : (T j).1 = own) (k : qc_J F cells slots (pc + 3) ls st (qc_sR h t j (some v))) : qc_J F cells slots pc ls (.ref v :: .ref t :: st) h := by
  obtain ⟨p, l, e, R, s, m, args, below, meth, c, nL, D, ca, A, n0, ad0, Q⟩ := F
  obtain ⟨hx, hb, hml, hown, hts, hlocks, hG, hroom, hnm⟩ := cx
  obtain ⟨h8, hc, hin, hN, hty, hnn⟩ := hcl
  intro ad H locs la hw hS ha hl
  have hjl : j < (qc_fl kk).length := (List.getElem?_eq_some_iff.mp hj).1
  have hjN : j < N := by omega
  have he : (qc_W ca ad h).set t (ad t, .inr (kk, (qc_fs ad h t).set j (.ref (ad v)))) = qc_W ca ad (qc_sR h t j (some v)) := qc_W_set rfl ht (qc_sR_obj hk h8 (qc_gt hj)) qc_sR_ne
  refine va_putF (ty := tyf j) (v := .ref (ad v)) (C := C) (T := T) (N := N) hx hb hts hin tyf hty hnn hown hG.1 hw.1 hw.2 hS t ((qc_W_at ht).trans (by rw [qc_E_obj hk h8])) hc j hjN (hts _ hf) (fun _ z => z) hfin (hnm.trans hnm9) hdecl (hty j hjN) (hn (ad v)) (hfit (ad v)) (by rw [qc_fs_len, hk]; exact hjl) hd (fun H1 locs1 hP hD hS => ?_)
  rw [he] at hP hD
  exact k ad H1 locs1 la ⟨hP, hD⟩ hS ha hl
theorem qj_iald {F : qc_F} {cc : ByteArray} {own nm : String} {rF rC rS rL cells slots pc : Nat} {ls : List (Option Value)} {st : List Value} {h : qc_Pl} {t n1 : Nat} {i : Int32} (cx : qc_X F cc own nm rF rC rS rL) (hd : decode cc pc = .ok (.iaload, 1)) (hk : qc_K h t = 8) (ht : t < qc_n h) (hN : qc_N h t = n1) (hin : vp_in i n1) (k : qc_J F cells slots (pc + 1) ls (.int (h.1 t i.toNatClampNeg) :: st) h) : qc_J F cells slots pc ls (.int i :: .ref t :: st) h := by
  obtain ⟨p, l, e, R, s, m, args, below, meth, c, nL, D, ca, A, n0, ad0, Q⟩ := F
  obtain ⟨hx, hb, hml, hown, hts, hlocks, hG, hroom, hnm⟩ := cx
  intro ad H locs la hw hS ha hl
  exact va_iald hx hb hG.1 hw.1 t 0 ((qc_W_at ht).trans (by rw [qc_E_arr hk (by omega), hN])) rfl hin hd (k ad H locs la hw hS ha hl)
theorem qj_zald {F : qc_F} {cc : ByteArray} {own nm : String} {rF rC rS rL cells slots pc : Nat} {ls : List (Option Value)} {st : List Value} {h : qc_Pl} {t n1 : Nat} {i : Int32} (cx : qc_X F cc own nm rF rC rS rL) (hd : decode cc pc = .ok (.baload, 1)) (hk : qc_K h t = 9) (ht : t < qc_n h) (hN : qc_N h t = n1) (hin : vp_in i n1) (k : qc_J F cells slots (pc + 1) ls (.int (h.1 t i.toNatClampNeg) :: st) h) : qc_J F cells slots pc ls (.int i :: .ref t :: st) h := by
  obtain ⟨p, l, e, R, s, m, args, below, meth, c, nL, D, ca, A, n0, ad0, Q⟩ := F
  obtain ⟨hx, hb, hml, hown, hts, hlocks, hG, hroom, hnm⟩ := cx
  intro ad H locs la hw hS ha hl
  exact va_zald hx hb hG.1 hw.1 t 1 ((qc_W_at ht).trans (by rw [qc_E_arr hk (by omega), hN])) rfl hin hd (k ad H locs la hw hS ha hl)
theorem qj_iast {F : qc_F} {cc : ByteArray} {own nm : String} {rF rC rS rL cells slots pc : Nat} {ls : List (Option Value)} {st : List Value} {h : qc_Pl} {t n1 : Nat} {i x : Int32} (cx : qc_X F cc own nm rF rC rS rL) (hd : decode cc pc = .ok (.iastore, 1)) (hk : qc_K h t = 8) (ht : t < qc_n h) (hN : qc_N h t = n1) (hin : vp_in i n1) (k : qc_J F cells slots (pc + 1) ls st (qc_sI h t i.toNatClampNeg x)) : qc_J F cells slots pc ls (.int x :: .int i :: .ref t :: st) h := by
  obtain ⟨p, l, e, R, s, m, args, below, meth, c, nL, D, ca, A, n0, ad0, Q⟩ := F
  obtain ⟨hx, hb, hml, hown, hts, hlocks, hG, hroom, hnm⟩ := cx
  intro ad H locs la hw hS ha hl
  have he : (qc_W ca ad h).set t (ad t, .inl (ca 8, n1, .inl (upd (h.1 t) i.toNatClampNeg x))) = qc_W ca ad (qc_sI h t i.toNatClampNeg x) := qc_W_set rfl ht (by rw [← hN]; exact qc_sI_arr hk (by omega)) qc_sI_ne
  refine va_iast (x := x) hx hb hG.1 hw.1 hw.2 hS t 0 ((qc_W_at ht).trans (by rw [qc_E_arr hk (by omega), hN])) rfl hin hd (fun H1 locs1 hP hD hS => ?_)
  rw [he] at hP hD
  exact k ad H1 locs1 la ⟨hP, hD⟩ hS ha hl
theorem qj_zast {F : qc_F} {cc : ByteArray} {own nm : String} {rF rC rS rL cells slots pc : Nat} {ls : List (Option Value)} {st : List Value} {h : qc_Pl} {t n1 : Nat} {i x : Int32} (cx : qc_X F cc own nm rF rC rS rL) (hd : decode cc pc = .ok (.bastore, 1)) (hk : qc_K h t = 9) (ht : t < qc_n h) (hN : qc_N h t = n1) (hin : vp_in i n1) (k : qc_J F cells slots (pc + 1) ls st (qc_sI h t i.toNatClampNeg (vp_nar .boolean x))) : qc_J F cells slots pc ls (.int x :: .int i :: .ref t :: st) h := by
  obtain ⟨p, l, e, R, s, m, args, below, meth, c, nL, D, ca, A, n0, ad0, Q⟩ := F
  obtain ⟨hx, hb, hml, hown, hts, hlocks, hG, hroom, hnm⟩ := cx
  intro ad H locs la hw hS ha hl
  have he : (qc_W ca ad h).set t (ad t, .inl (ca 9, n1, .inl (upd (h.1 t) i.toNatClampNeg (vp_nar .boolean x)))) = qc_W ca ad (qc_sI h t i.toNatClampNeg (vp_nar .boolean x)) := qc_W_set rfl ht (by rw [← hN]; exact qc_sI_arr hk (by omega)) qc_sI_ne
  refine va_zast (x := x) hx hb hG.1 hw.1 hw.2 hS t 1 ((qc_W_at ht).trans (by rw [qc_E_arr hk (by omega), hN])) rfl hin hd (fun H1 locs1 hP hD hS => ?_)
  rw [he] at hP hD
  exact k ad H1 locs1 la ⟨hP, hD⟩ hS ha hl
theorem qj_aald {F : qc_F} {cc : ByteArray} {own nm : String} {rF rC rS rL cells slots pc : Nat} {ls : List (Option Value)} {st : List Value} {h : qc_Pl} {t n1 kd t1 : Nat} {i : Int32} {ty : FieldType} (cx : qc_X F cc own nm rF rC rS rL) (hd : decode cc pc = .ok (.aaload, 1)) (hk : qc_K h t = kd) (hkd : (kd = 10 ∧ ty = .object "QuietChannels$Image") ∨ (kd = 11 ∧ ty = .array .int)) (ht : t < qc_n h) (hN : qc_N h t = n1) (hin : vp_in i n1) (hr : qc_R h t i.toNatClampNeg = some t1) (k : qc_J F cells slots (pc + 1) ls (.ref t1 :: st) h) : qc_J F cells slots pc ls (.int i :: .ref t :: st) h := by
  obtain ⟨p, l, e, R, s, m, args, below, meth, c, nL, D, ca, A, n0, ad0, Q⟩ := F
  obtain ⟨hx, hb, hml, hown, hts, hlocks, hG, hroom, hnm⟩ := cx
  intro ad H locs la hw hS ha hl
  have hlt : i.toNatClampNeg < n1 := Nat.not_le.mp fun q => hin (Or.inr q)
  have hP := hw.1 t _ ((qc_W_at ht).trans (by rw [qc_E_ref hk (by omega), hN]))
  have hcell : H[ad t]? = some (arrV (ca kd) n1 (fun j => va_rf ((qc_R h t j).map ad))) := hP
  have hK : ArrOfT s (ca kd) ty := by
    rcases hkd with ⟨rfl, rfl⟩ | ⟨rfl, rfl⟩
    · exact (hG.1.2 2 _ rfl).1
    · exact (hG.1.2 3 _ rfl).1
  exact W.aald (v := .ref (ad t1)) (ty := ty) hx hb hcell (hK n1 _) (by rcases hkd with ⟨-, rfl⟩ | ⟨-, rfl⟩ <;> rfl) (fun q => by cases q) (by rw [arrV_size]; exact hin) (by rw [arrV_read _ _ hlt, hr]; rfl) rfl rfl hd (k ad H locs la hw hS ha hl)
theorem qj_gets {F : qc_F} {cc : ByteArray} {own nm : String} {rF rC rS rL cells slots pc : Nat} {ls : List (Option Value)} {st : List Value} {h : qc_Pl} {idx i : Nat} {ref host : String} (cx : qc_X F cc own nm rF rC rS rL) (hd : decode cc pc = .ok (.getstatic idx, 3)) (hi : i < 6) (hf : (own, idx, "QuietChannels", qc_sn i, "[I", host) ∈ qc_fn) (hn : qc_n h ≤ qc_RO) (k : qc_J F cells slots (pc + 3) ls (.ref (qc_RO + i) :: st) h) : qc_J F cells slots pc ls st h := by
  obtain ⟨p, l, e, R, s, m, args, below, meth, c, nL, D, ca, A, n0, ad0, Q⟩ := F
  obtain ⟨hx, hb, hml, hown, hts, hlocks, hG, hroom, hnm⟩ := cx
  intro ad H locs la hw hS ha hl
  have ea : ad (qc_RO + i) = ad0 (qc_RO + i) := ha _ (by omega)
  refine va_getsN (v := .ref (ad0 (qc_RO + i))) hx hb (hG.2.2.2.1 i hi).1 hS hown (va_Nw.use rfl (hG.2.1 _ hf)) (fun _ z => z) hd ?_
  have := (k ad H locs la hw hS ha hl)
  rw [List.map_cons] at this
  rw [← ea]
  exact this
theorem qj_tald {F : qc_F} {cc : ByteArray} {own nm : String} {rF rC rS rL cells slots pc : Nat} {ls : List (Option Value)} {st : List Value} {h : qc_Pl} {i : Nat} {j : Int32} (cx : qc_X F cc own nm rF rC rS rL) (hd : decode cc pc = .ok (.iaload, 1)) (hi : i < 6) (hn : qc_n h ≤ qc_RO) (hin : vp_in j 6) (k : qc_J F cells slots (pc + 1) ls (.int ((qc_sv i).getD j.toNatClampNeg 0) :: st) h) : qc_J F cells slots pc ls (.int j :: .ref (qc_RO + i) :: st) h := by
  obtain ⟨p, l, e, R, s, m, args, below, meth, c, nL, D, ca, A, n0, ad0, Q⟩ := F
  obtain ⟨hx, hb, hml, hown, hts, hlocks, hG, hroom, hnm⟩ := cx
  intro ad H locs la hw hS ha hl
  have ea : ad (qc_RO + i) = ad0 (qc_RO + i) := ha _ (by omega)
  have hT := (hG.2.2.2.1 i hi).2
  rw [← ea] at hT
  exact va_ti hx hb hT hS hin rfl hd (k ad H locs la hw hS ha hl)
theorem qj_max {F : qc_F} {cc : ByteArray} {own nm : String} {rF rC rS rL cells slots pc : Nat} {ls : List (Option Value)} {st : List Value} {h : qc_Pl} {idx : Nat} {x y : Int32} (cx : qc_X F cc own nm rF rC rS rL) (hd : decode cc pc = .ok (.invokestatic idx, 3)) (h1 : Cond.methodLink own idx Lib.Math.max.name ∈ qc_GW) (h2 : Cond.static Lib.Math.max.name ∈ qc_GW) (h3 : Cond.initialized "java/lang/Math" ∈ qc_GW) (h4 : Cond.code Lib.Math.max.name Lib.Math.max.code 2 (some .int) ∈ qc_GW) (hf : 1 ≤ rF) (hq : (st.map fun v => v.category).sum + 13 ≤ rL) (hc : cells ≤ rC) (hs : slots ≤ rS) (k : qc_J F cells slots (pc + 3) ls (.int (if x < y then y else x) :: st) h) : qc_J F cells slots pc ls (.int y :: .int x :: st) h := by
  obtain ⟨p, l, e, R, s, m, args, below, meth, c, nL, D, ca, A, n0, ad0, Q⟩ := F
  obtain ⟨hx, hb, hml, hown, hts, hlocks, hG, hroom, hnm⟩ := cx
  intro ad H locs la hw hS ha hl
  refine va_mmax hx hb (hml.trans hl.1.symm) hown (hts _ h1) (hts _ h2) (hts _ h3) (hts _ h4) (by omega) ?_ (by omega) (by omega) hd (k ad H locs la hw hS ha hl)
  have e1 : (List.map (fun v : Value => v.category) (List.map (qc_rv ad) st)) = st.map (fun v => v.category) := by
    rw [List.map_map]
    exact List.map_congr_left fun v _ => qc_rv_cat ad v
  rw [e1]
  omega
theorem qj_min {F : qc_F} {cc : ByteArray} {own nm : String} {rF rC rS rL cells slots pc : Nat} {ls : List (Option Value)} {st : List Value} {h : qc_Pl} {idx : Nat} {x y : Int32} (cx : qc_X F cc own nm rF rC rS rL) (hd : decode cc pc = .ok (.invokestatic idx, 3)) (h1 : Cond.methodLink own idx Lib.Math.min.name ∈ qc_GW) (h2 : Cond.static Lib.Math.min.name ∈ qc_GW) (h3 : Cond.initialized "java/lang/Math" ∈ qc_GW) (h4 : Cond.code Lib.Math.min.name Lib.Math.min.code 2 (some .int) ∈ qc_GW) (hf : 1 ≤ rF) (hq : (st.map fun v => v.category).sum + 13 ≤ rL) (hc : cells ≤ rC) (hs : slots ≤ rS) (k : qc_J F cells slots (pc + 3) ls (.int (if y < x then y else x) :: st) h) : qc_J F cells slots pc ls (.int y :: .int x :: st) h := by
  obtain ⟨p, l, e, R, s, m, args, below, meth, c, nL, D, ca, A, n0, ad0, Q⟩ := F
  obtain ⟨hx, hb, hml, hown, hts, hlocks, hG, hroom, hnm⟩ := cx
  intro ad H locs la hw hS ha hl
  refine va_mmin hx hb (hml.trans hl.1.symm) hown (hts _ h1) (hts _ h2) (hts _ h3) (hts _ h4) (by omega) ?_ (by omega) (by omega) hd (k ad H locs la hw hS ha hl)
  have e1 : (List.map (fun v : Value => v.category) (List.map (qc_rv ad) st)) = st.map (fun v => v.category) := by
    rw [List.map_map]
    exact List.map_congr_left fun v _ => qc_rv_cat ad v
  rw [e1]
  omega
theorem qj_abs {F : qc_F} {cc : ByteArray} {own nm : String} {rF rC rS rL cells slots pc : Nat} {ls : List (Option Value)} {st : List Value} {h : qc_Pl} {idx : Nat} {x y : Int32} (cx : qc_X F cc own nm rF rC rS rL) (hd : decode cc pc = .ok (.invokestatic idx, 3)) (h1 : Cond.methodLink own idx Lib.Math.abs.name ∈ qc_GW) (h2 : Cond.static Lib.Math.abs.name ∈ qc_GW) (h3 : Cond.initialized "java/lang/Math" ∈ qc_GW) (h4 : Cond.code Lib.Math.abs.name Lib.Math.abs.code 1 (some .int) ∈ qc_GW) (hf : 1 ≤ rF) (hq : (st.map fun v => v.category).sum + 13 ≤ rL) (hc : cells ≤ rC) (hs : slots ≤ rS) (k : qc_J F cells slots (pc + 3) ls (.int (if 0 ≤ x then x else 0 - x) :: st) h) : qc_J F cells slots pc ls (.int x :: st) h := by
  obtain ⟨p, l, e, R, s, m, args, below, meth, c, nL, D, ca, A, n0, ad0, Q⟩ := F
  obtain ⟨hx, hb, hml, hown, hts, hlocks, hG, hroom, hnm⟩ := cx
  intro ad H locs la hw hS ha hl
  refine va_mabs hx hb (hml.trans hl.1.symm) hown (hts _ h1) (hts _ h2) (hts _ h3) (hts _ h4) (by omega) ?_ (by omega) (by omega) hd (k ad H locs la hw hS ha hl)
  have e1 : (List.map (fun v : Value => v.category) (List.map (qc_rv ad) st)) = st.map (fun v => v.category) := by
    rw [List.map_map]
    exact List.map_congr_left fun v _ => qc_rv_cat ad v
  rw [e1]
  omega
theorem qj_topi {F : qc_F} {cc : ByteArray} {own nm : String} {rF rC rS rL cells slots pc : Nat} {ls : List (Option Value)} {st : List Value} {h : qc_Pl} {x : Int32} (k : ∀ y : Int32, y = x → qc_J F cells slots pc ls (.int y :: st) h) : qc_J F cells slots pc ls (.int x :: st) h := k x rfl
theorem qj_sub {F : qc_F} {cc : ByteArray} {own nm : String} {rF rC rS rL cells slots pc : Nat} {ls : List (Option Value)} {st : List Value} {h : qc_Pl} {ls1 : List (Option Value)} (hn : decide (ls1.length ≤ ls.length) = true) (he : ∀ (i : Nat) (v : Value), ls1[i]? = some (some v) → ls[i]? = some (some v)) (k : qc_J F cells slots pc ls1 st h) : qc_J F cells slots pc ls st h := by
  obtain ⟨p, l, e, R, s, m, args, below, meth, c, nL, D, ca, A, n0, ad0, Q⟩ := F
  intro ad H locs la hw hS ha hl
  exact k ad H locs la hw hS ha (hl.sub (of_decide_eq_true hn) he)
theorem qj_iret {F : qc_F} {cc : ByteArray} {own nm : String} {rF rC rS rL cells slots pc : Nat} {ls : List (Option Value)} {st : List Value} {h : qc_Pl} {mc ms : Nat}  {v : Int32} (cx : qc_X F cc own nm rF rC rS rL) (hz : qc_Z F (some .int) (some (.int v)) h mc ms) (hd : decode cc pc = .ok (.ireturn, 1))  (hc : cells ≤ mc) (hs : slots ≤ ms) : qc_J F cells slots pc ls [.int v] h := by
  obtain ⟨p, l, e, R, s, m, args, below, meth, c, nL, D, ca, A, n0, ad0, Q⟩ := F
  obtain ⟨hx, hb, hml, hown, hts, hlocks, hG, hroom, hnm⟩ := cx
  obtain ⟨hr, rfl⟩ := hz
  intro ad H locs la hw hS ha hl
  refine W.widen hc hs ?_
  exact W.iret hx hb hr  (fun t ht hW => ⟨ad, ⟨rfl, by rw [ht]; exact hw, ha⟩, hS.F ht⟩) hS.2.2 hd hlocks
theorem qj_zret {F : qc_F} {cc : ByteArray} {own nm : String} {rF rC rS rL cells slots pc : Nat} {ls : List (Option Value)} {st : List Value} {h : qc_Pl} {mc ms : Nat} {ty : FieldType} {v : Int32} (cx : qc_X F cc own nm rF rC rS rL) (hz : qc_Z F (some ty) (some (.int v)) h mc ms) (hd : decode cc pc = .ok (.ireturn, 1)) (hn : narrow ty (.int v) = .int v) (hc : cells ≤ mc) (hs : slots ≤ ms) : qc_J F cells slots pc ls [.int v] h := by
  obtain ⟨p, l, e, R, s, m, args, below, meth, c, nL, D, ca, A, n0, ad0, Q⟩ := F
  obtain ⟨hx, hb, hml, hown, hts, hlocks, hG, hroom, hnm⟩ := cx
  obtain ⟨hr, rfl⟩ := hz
  intro ad H locs la hw hS ha hl
  refine W.widen hc hs ?_
  exact W.zret hx hb hr hn (fun t ht hW => ⟨ad, ⟨rfl, by rw [ht]; exact hw, ha⟩, hS.F ht⟩) hS.2.2 hd hlocks
theorem qj_lret {F : qc_F} {cc : ByteArray} {own nm : String} {rF rC rS rL cells slots pc : Nat} {ls : List (Option Value)} {st : List Value} {h : qc_Pl} {mc ms : Nat}  {v : Int64} (cx : qc_X F cc own nm rF rC rS rL) (hz : qc_Z F (some .long) (some (.long v)) h mc ms) (hd : decode cc pc = .ok (.lreturn, 1))  (hc : cells ≤ mc) (hs : slots ≤ ms) : qc_J F cells slots pc ls [.long v] h := by
  obtain ⟨p, l, e, R, s, m, args, below, meth, c, nL, D, ca, A, n0, ad0, Q⟩ := F
  obtain ⟨hx, hb, hml, hown, hts, hlocks, hG, hroom, hnm⟩ := cx
  obtain ⟨hr, rfl⟩ := hz
  intro ad H locs la hw hS ha hl
  refine W.widen hc hs ?_
  exact W.lret hx hb hr  (fun t ht hW => ⟨ad, ⟨rfl, by rw [ht]; exact hw, ha⟩, hS.F ht⟩) hS.2.2 hd hlocks
theorem qj_vret {F : qc_F} {cc : ByteArray} {own nm : String} {rF rC rS rL cells slots pc : Nat} {ls : List (Option Value)} {st : List Value} {h : qc_Pl} {mc ms : Nat} (cx : qc_X F cc own nm rF rC rS rL) (hz : qc_Z F none none h mc ms) (hd : decode cc pc = .ok (.return_, 1)) (hc : cells ≤ mc) (hs : slots ≤ ms) : qc_J F cells slots pc ls [] h := by
  obtain ⟨p, l, e, R, s, m, args, below, meth, c, nL, D, ca, A, n0, ad0, Q⟩ := F
  obtain ⟨hx, hb, hml, hown, hts, hlocks, hG, hroom, hnm⟩ := cx
  obtain ⟨hr, rfl⟩ := hz
  intro ad H locs la hw hS ha hl
  refine W.widen hc hs ?_
  exact W.vret hx hb hr (fun t ht hW => ⟨ad, ⟨rfl, by rw [ht]; exact hw, ha⟩, hS.F ht⟩) hS.2.2 hd hlocks
