/-! feed leaves the same tape on both sides -/
theorem fd_r1 {M : Nat → Nat → Int32} {p : Nat} {x : Int32} : qc_u2 M 1 p x 1 = qc_u (M 1) p x := by
  unfold qc_u2
  rw [qc_u_s]
theorem fd_r0 {M : Nat → Nat → Int32} {j : Nat} {x : Int32} : qc_u2 M 0 j x 1 = M 1 := by
  unfold qc_u2
  rw [qc_u_n _ _ (by decide)]
theorem fd_tape {I M : Nat → Nat → Int32} {n : Nat} {a b c d e x : Int32} (ht : I 1 = M 1) : tp_5 I n a b c d e 1 = qc_u2 (fd_s M n a b c d e) 0 2 x 1 := by
  rw [fd_r0]
  unfold tp_5 tp_4 fd_s
  simp only [tp_w1, fd_r1, fd_r0, ht]
  rfl
