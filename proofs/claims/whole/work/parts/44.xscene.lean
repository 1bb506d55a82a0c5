/-! THE CLASS'S SCENE: what its small questions answer -/
theorem x_crowd {I : Nat → Nat → Int32} {J : Nat → Nat → Int64} {p : Nat} {V : sV} (h : SX I J p V) {a b : Nat} (ha : a < 8) (hb : b < 8) : P_X4_crowd I p (zI a) (zI b) = some (bI (crowdS V a b)) := by
  obtain ⟨hus, hbd, hgd, hsp, hod, hst, hlo, hhi, hch, hpw, hsl, hls, hlk, hsh⟩ := h
  unfold P_X4_crowd crowdS dist
  simp (disch := omega) only [zI_add, zI_sub, zI_mul, zI_neg, zL, zI_le, zI_lt, zI_eq, zI_cl, zA0, zI_if, Int.toNat_natCast, zT_add, zT_mul, Int.reduceToNat, Nat.add_zero, Nat.zero_add, Int.add_zero, Int.zero_add, zc_a, zc_l, Option.bind_some, qc_let, qc_in, qc_bo, iteT, iteF, if_true, if_false, qG, hst, hch, hsl, hsp, nI_and]
  repeat' split
  all_goals try simp (disch := omega) only [zI_add, zI_sub, zI_mul, zI_neg, zL, zI_le, zI_lt, zI_eq, zI_cl, zA0, zI_if, Int.toNat_natCast, zT_add, zT_mul, Int.reduceToNat, Nat.add_zero, Nat.zero_add, Int.add_zero, Int.zero_add, zc_a, zc_l, Option.bind_some, qc_let, qc_in, qc_bo, iteT, iteF, if_true, if_false, qG, true_or, or_true, if_true]
  all_goals first | (exfalso; omega) | (rw [bI_n (by omega)]) | (rw [bI_p (by omega)])
