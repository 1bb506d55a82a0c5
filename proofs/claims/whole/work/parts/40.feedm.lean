/-! feed of the reference, closed form -/
def fd_s (M : Nat → Nat → Int32) (n : Nat) (a b c d e : Int32) : Nat → Nat → Int32 := (qc_u2 (qc_u2 (qc_u2 (qc_u2 (qc_u2 (qc_u2 (qc_u2 (qc_u2 (qc_u2 (qc_u2 (qc_u2 (qc_u2 (qc_u2 (qc_u2 (qc_u2 (qc_u2 (qc_u2 (qc_u2 (qc_u2 (qc_u2 (qc_u2 M 0 0 0) 1 (n + 0) ((a >>> ((24 : Int32) &&& 31)) &&& 255)) 1 (n + 1) ((a >>> ((16 : Int32) &&& 31)) &&& 255)) 1 (n + 2) ((a >>> ((8 : Int32) &&& 31)) &&& 255)) 1 (n + 3) ((a >>> ((0 : Int32) &&& 31)) &&& 255)) 1 (n + 4) ((b >>> ((24 : Int32) &&& 31)) &&& 255)) 1 (n + 5) ((b >>> ((16 : Int32) &&& 31)) &&& 255)) 1 (n + 6) ((b >>> ((8 : Int32) &&& 31)) &&& 255)) 1 (n + 7) ((b >>> ((0 : Int32) &&& 31)) &&& 255)) 1 (n + 8) ((c >>> ((24 : Int32) &&& 31)) &&& 255)) 1 (n + 9) ((c >>> ((16 : Int32) &&& 31)) &&& 255)) 1 (n + 10) ((c >>> ((8 : Int32) &&& 31)) &&& 255)) 1 (n + 11) ((c >>> ((0 : Int32) &&& 31)) &&& 255)) 1 (n + 12) ((d >>> ((24 : Int32) &&& 31)) &&& 255)) 1 (n + 13) ((d >>> ((16 : Int32) &&& 31)) &&& 255)) 1 (n + 14) ((d >>> ((8 : Int32) &&& 31)) &&& 255)) 1 (n + 15) ((d >>> ((0 : Int32) &&& 31)) &&& 255)) 1 (n + 16) ((e >>> ((24 : Int32) &&& 31)) &&& 255)) 1 (n + 17) ((e >>> ((16 : Int32) &&& 31)) &&& 255)) 1 (n + 18) ((e >>> ((8 : Int32) &&& 31)) &&& 255)) 1 (n + 19) ((e >>> ((0 : Int32) &&& 31)) &&& 255))
theorem fd_p02 {M : Nat → Nat → Int32} {p : Nat} {x : Int32} : qc_u2 M 1 p x 0 2 = M 0 2 := by
  unfold qc_u2
  rw [qc_u_n _ _ (by decide)]
theorem fd_p00 {M : Nat → Nat → Int32} {x : Int32} : qc_u2 M 0 0 x 0 2 = M 0 2 := by
  unfold qc_u2
  rw [qc_u_s, qc_u_n _ _ (by decide)]
theorem fd_s02 {M : Nat → Nat → Int32} {n : Nat} {a b c d e : Int32} : fd_s M n a b c d e 0 2 = M 0 2 := by
  unfold fd_s
  simp only [fd_p02, fd_p00]
theorem fd_M {M : Nat → Nat → Int32} {a b c d e : Int32} {n : Nat} (hM : M 0 2 = nI n) (hn : n + 20 ≤ 700) : P_X7_feed M a b c d e = some (nI (n + 20), qc_u2 (fd_s M n a b c d e) 0 2 (nI (n + 20))) := by
  have h6 : nI n ≤ (680 : Int32) := by
    rw [show (680 : Int32) = nI 680 from rfl, nI_leI (by omega) (by decide)]
    omega
  have g0 : (qc_u2 M 0 0 0) 0 2 = nI n := fd_p00.trans hM
  unfold P_X7_feed qc_let
  dsimp only
  rw [g0, if_pos h6, show qc_fu = 99979 + 1 + 1 + 1 + 1 + 1 + 1 + 1 + 1 + 1 + 1 + 1 + 1 + 1 + 1 + 1 + 1 + 1 + 1 + 1 + 1 + 1 from rfl]
  have key : P_X7_feed_20 (99979 + 1 + 1 + 1 + 1 + 1 + 1 + 1 + 1 + 1 + 1 + 1 + 1 + 1 + 1 + 1 + 1 + 1 + 1 + 1 + 1 + 1) (qc_u2 M 0 0 0) a b c d e 0 = P_X7_feed_20 (99979 + 1) (fd_s M n a b c d e) a b c d e 20 := by
    rw [fd_0, fd_1, fd_2, fd_3, fd_4, fd_5, fd_6, fd_7, fd_8, fd_9, fd_10, fd_11, fd_12, fd_13, fd_14, fd_15, fd_16, fd_17, fd_18, fd_19]
    · rfl
    all_goals first | exact hn | exact g0 | (simp only [fd_p02]; exact g0)
  rw [key, P_X7_feed_20, if_pos (by decide)]
  unfold qc_let
  dsimp only
  rw [fd_s02, hM, lw_nk (k := 20) (v := 20) rfl]
  rw [show qc_u2 (fd_s M n a b c d e) 0 2 (nI (n + 20)) 0 2 = nI (n + 20) from by unfold qc_u2; rw [qc_u_s, qc_u_s]]
