/-! feed, both sides alike -/
theorem tp_w1 {I : Nat → Nat → Int32} {n : Nat} {a k : Int32} : tp_w I n a k 1 = qc_u (I 1) n ((a >>> (k &&& 31)) &&& 255) := by
  unfold tp_w qc_u2
  rw [qc_u_n _ _ (by decide), qc_u_s]
theorem tp_wt {I : Nat → Nat → Int32} {n t : Nat} {a k : Int32} (h0 : t ≠ 0) (h1 : t ≠ 1) : tp_w I n a k t = I t := by
  unfold tp_w qc_u2
  rw [qc_u_n _ _ h0, qc_u_n _ _ h1]
theorem tp_w0 {I : Nat → Nat → Int32} {n j : Nat} {a k : Int32} (h : j ≠ 1) : tp_w I n a k 0 j = I 0 j := by
  unfold tp_w qc_u2
  rw [qc_u_s, qc_u_n _ _ h, qc_u_n _ _ (by decide)]
def tp_4 (I : Nat → Nat → Int32) (n : Nat) (a : Int32) : Nat → Nat → Int32 := tp_w (tp_w (tp_w (tp_w I n a 24) (n + 1) a 16) (n + 2) a 8) (n + 3) a 0
theorem tp_401 {I : Nat → Nat → Int32} {n : Nat} {a : Int32} : tp_4 I n a 0 1 = nI (n + 4) := tp_w01
theorem tp_4t {I : Nat → Nat → Int32} {n t : Nat} {a : Int32} (h0 : t ≠ 0) (h1 : t ≠ 1) : tp_4 I n a t = I t := by
  unfold tp_4
  rw [tp_wt h0 h1, tp_wt h0 h1, tp_wt h0 h1, tp_wt h0 h1]
theorem tp_40 {I : Nat → Nat → Int32} {n j : Nat} {a : Int32} (h : j ≠ 1) : tp_4 I n a 0 j = I 0 j := by
  unfold tp_4
  rw [tp_w0 h, tp_w0 h, tp_w0 h, tp_w0 h]
def tp_5 (I : Nat → Nat → Int32) (n : Nat) (a b c d e : Int32) : Nat → Nat → Int32 := tp_4 (tp_4 (tp_4 (tp_4 (tp_4 I n a) (n + 4) b) (n + 8) c) (n + 12) d) (n + 16) e
theorem fd_X {I : Nat → Nat → Int32} {a b c d e : Int32} {n : Nat} (hI : I 0 1 = nI n) (hn : n + 20 ≤ 700) : P_X6_feed I a b c d e = some (nI (n + 20), tp_5 I n a b c d e) := by
  have h7 : nI n + (20 : Int32) ≤ (700 : Int32) := by
    rw [lw_nk (k := 20) (v := 20) rfl, show (700 : Int32) = nI 700 from rfl, nI_leI (by omega) (by decide)]
    omega
  unfold P_X6_feed
  rw [hI, if_pos h7]
  rw [show P_X6_putBytes I a = some (tp_4 I n a) from tp_put hI (by omega), Option.bind_some]
  rw [show P_X6_putBytes (tp_4 I n a) b = some (tp_4 (tp_4 I n a) (n + 4) b) from tp_put tp_401 (by omega), Option.bind_some]
  rw [show P_X6_putBytes (tp_4 (tp_4 I n a) (n + 4) b) c = some (tp_4 (tp_4 (tp_4 I n a) (n + 4) b) (n + 8) c) from tp_put tp_401 (by omega), Option.bind_some]
  rw [show P_X6_putBytes (tp_4 (tp_4 (tp_4 I n a) (n + 4) b) (n + 8) c) d = some (tp_4 (tp_4 (tp_4 (tp_4 I n a) (n + 4) b) (n + 8) c) (n + 12) d) from tp_put tp_401 (by omega), Option.bind_some]
  rw [show P_X6_putBytes (tp_4 (tp_4 (tp_4 (tp_4 I n a) (n + 4) b) (n + 8) c) (n + 12) d) e = some (tp_5 I n a b c d e) from tp_put tp_401 (by omega), Option.bind_some]
  rw [show tp_5 I n a b c d e 0 1 = nI (n + 20) from tp_401]
