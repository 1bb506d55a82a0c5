/-! BITS of a long -/
theorem bj_sh : ∀ c : Fin 64, (((zI c.val).toInt64 &&& 63).toBitVec.smod 64#64).toNat = c.val := by decide +kernel
theorem bj_r (x : Int64) {c : Nat} (h : c < 64) : (x >>> ((zI c).toInt64 &&& 63)) &&& 1 = if bJ x c = true then 1 else 0 := by
  have e := bj_sh ⟨c, h⟩
  dsimp only at e
  apply Int64.toBitVec_inj.1
  have e1 : ((x >>> ((zI c).toInt64 &&& 63)) &&& 1).toBitVec = (x.toBitVec.sshiftRight' (((zI c).toInt64 &&& 63).toBitVec.smod 64#64)) &&& 1#64 := rfl
  rw [e1]
  apply BitVec.eq_of_getLsbD_eq
  intro i hi
  rw [BitVec.getLsbD_and, BitVec.getLsbD_sshiftRight', e, BitVec.getLsbD_one]
  by_cases h0 : i = 0
  · subst h0
    rw [Nat.add_zero, if_pos h]
    unfold bJ
    cases x.toBitVec.getLsbD c <;> rfl
  · have : ((if bJ x c = true then (1 : Int64) else 0).toBitVec).getLsbD i = false := by
      cases bJ x c
      · show (0#64).getLsbD i = false
        exact BitVec.getLsbD_zero
      · show (1#64).getLsbD i = false
        rw [BitVec.getLsbD_one]
        simp [h0]
    rw [this]
    simp [h0]
theorem bj_1 {c i : Nat} (h : c < 64) (hi : i < 64) : bJ ((1 : Int64) <<< ((zI c).toInt64 &&& 63)) i = decide (i = c) := by
  have e := bj_sh ⟨c, h⟩
  dsimp only at e
  have e1 : ((1 : Int64) <<< ((zI c).toInt64 &&& 63)).toBitVec = 1#64 <<< (((zI c).toInt64 &&& 63).toBitVec.smod 64#64) := rfl
  unfold bJ
  rw [e1, BitVec.getLsbD_shiftLeft', e, BitVec.getLsbD_one]
  by_cases h1 : i = c
  · subst h1
    simp [hi]
  · by_cases h2 : i < c
    · simp [h1, h2]
    · simp [h1, h2, show ¬ (i - c = 0) by omega]
theorem bj_or (x : Int64) {c i : Nat} (h : c < 64) (hi : i < 64) : bJ (x ||| ((1 : Int64) <<< ((zI c).toInt64 &&& 63))) i = (bJ x i || decide (i = c)) := by
  rw [← bj_1 h hi]
  unfold bJ
  rw [← BitVec.getLsbD_or]
  rfl
theorem bj_xor (x : Int64) {c i : Nat} (h : c < 64) (hi : i < 64) : bJ (x ^^^ ((1 : Int64) <<< ((zI c).toInt64 &&& 63))) i = (bJ x i ^^ decide (i = c)) := by
  rw [← bj_1 h hi]
  unfold bJ
  rw [← BitVec.getLsbD_xor]
  rfl
theorem bj_0 (i : Nat) : bJ 0 i = false := BitVec.getLsbD_zero
theorem bj_cmp (x : Int64) {c : Nat} (h : c < 64) : lg_cmp ((x >>> ((zI c).toInt64 &&& 63)) &&& 1) 0 = 0 ↔ bJ x c = false := by
  rw [bj_r x h]
  cases bJ x c
  · decide
  · decide
