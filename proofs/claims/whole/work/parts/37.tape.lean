/-! MATHEMATICS, a first piece: putBytes writes four bytes behind the tape -/
def tp_w (I : Nat → Nat → Int32) (n : Nat) (a k : Int32) : Nat → Nat → Int32 := qc_u2 (qc_u2 I 1 n ((a >>> (k &&& 31)) &&& 255)) 0 1 (nI (n + 1))
theorem tp_w01 {I : Nat → Nat → Int32} {n : Nat} {a k : Int32} : tp_w I n a k 0 1 = nI (n + 1) := by
  unfold tp_w qc_u2
  rw [qc_u_s, qc_u_s]
theorem tp_step {f : Nat} {I : Nat → Nat → Int32} {a k : Int32} {n : Nat} (hI : I 0 1 = nI n) (hn : n < 700) (hk : ¬ k < 0) : P_X6_putBytes_3 (f + 1) I a k = P_X6_putBytes_3 f (tp_w I n a k) a (k + (-8 : Int32)) := by
  have e7 : ¬ (700 : Int32) ≤ nI n := by
    have := nI_leI (a := 700) (b := n) (by decide) (by omega)
    rw [show (700 : Int32) = nI 700 from rfl, this]
    omega
  have e1 : qc_u2 I 1 n ((a >>> (k &&& 31)) &&& 255) 0 1 = nI n := by
    unfold qc_u2
    rw [qc_u_n _ _ (by decide)]
    exact hI
  rw [P_X6_putBytes_3, if_neg hk, hI, if_neg e7, if_pos (nI_in hn (by decide)), nI_clamp (by omega)]
  unfold qc_let
  dsimp only
  rw [e1, nI_1]
  rfl
theorem tp_put {I : Nat → Nat → Int32} {a : Int32} {n : Nat} (hI : I 0 1 = nI n) (hn : n + 4 ≤ 700) : P_X6_putBytes I a = some (tp_w (tp_w (tp_w (tp_w I n a 24) (n + 1) a 16) (n + 2) a 8) (n + 3) a 0) := by
  unfold P_X6_putBytes
  rw [show qc_fu = 99995 + 1 + 1 + 1 + 1 + 1 from rfl]
  rw [tp_step (k := 24) hI (by omega) (by decide), show (24 : Int32) + (-8 : Int32) = 16 from by decide]
  rw [tp_step (k := 16) tp_w01 (by omega) (by decide), show (16 : Int32) + (-8 : Int32) = 8 from by decide]
  rw [tp_step (k := 8) tp_w01 (by omega) (by decide), show (8 : Int32) + (-8 : Int32) = 0 from by decide]
  rw [tp_step (k := 0) tp_w01 (by omega) (by decide), show (0 : Int32) + (-8 : Int32) = -8 from by decide]
  rw [P_X6_putBytes_3, if_pos (by decide)]
