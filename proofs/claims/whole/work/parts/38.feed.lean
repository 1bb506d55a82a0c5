/-! feed of the reference, byte by byte -/
theorem fd_0 {f : Nat} {I : Nat → Nat → Int32} {a b c d e : Int32} {n : Nat} (hI : I 0 2 = nI n) (hn : n + 20 ≤ 700) : P_X7_feed_20 (f + 1) I a b c d e 0 = P_X7_feed_20 f (qc_u2 I 1 (n + 0) ((a >>> ((24 : Int32) &&& 31)) &&& 255)) a b c d e 1 := by
  rw [P_X7_feed_20, if_neg (by decide), if_neg (by decide), Option.bind_some, hI, lw_nk (i := n) (k := 0) (v := 0) rfl, if_pos (nI_in (by omega) (by decide)), nI_clamp (by omega)]
  unfold qc_let
  dsimp only
  rw [show (24 : Int32) - (8 : Int32) * ((0 : Int32) - (0 : Int32) / (4 : Int32) * (4 : Int32)) = 24 from by decide, show (0 : Int32) + (1 : Int32) = 1 from by decide]
theorem fd_1 {f : Nat} {I : Nat → Nat → Int32} {a b c d e : Int32} {n : Nat} (hI : I 0 2 = nI n) (hn : n + 20 ≤ 700) : P_X7_feed_20 (f + 1) I a b c d e 1 = P_X7_feed_20 f (qc_u2 I 1 (n + 1) ((a >>> ((16 : Int32) &&& 31)) &&& 255)) a b c d e 2 := by
  rw [P_X7_feed_20, if_neg (by decide), if_neg (by decide), Option.bind_some, hI, lw_nk (i := n) (k := 1) (v := 1) rfl, if_pos (nI_in (by omega) (by decide)), nI_clamp (by omega)]
  unfold qc_let
  dsimp only
  rw [show (24 : Int32) - (8 : Int32) * ((1 : Int32) - (1 : Int32) / (4 : Int32) * (4 : Int32)) = 16 from by decide, show (1 : Int32) + (1 : Int32) = 2 from by decide]
theorem fd_2 {f : Nat} {I : Nat → Nat → Int32} {a b c d e : Int32} {n : Nat} (hI : I 0 2 = nI n) (hn : n + 20 ≤ 700) : P_X7_feed_20 (f + 1) I a b c d e 2 = P_X7_feed_20 f (qc_u2 I 1 (n + 2) ((a >>> ((8 : Int32) &&& 31)) &&& 255)) a b c d e 3 := by
  rw [P_X7_feed_20, if_neg (by decide), if_neg (by decide), Option.bind_some, hI, lw_nk (i := n) (k := 2) (v := 2) rfl, if_pos (nI_in (by omega) (by decide)), nI_clamp (by omega)]
  unfold qc_let
  dsimp only
  rw [show (24 : Int32) - (8 : Int32) * ((2 : Int32) - (2 : Int32) / (4 : Int32) * (4 : Int32)) = 8 from by decide, show (2 : Int32) + (1 : Int32) = 3 from by decide]
theorem fd_3 {f : Nat} {I : Nat → Nat → Int32} {a b c d e : Int32} {n : Nat} (hI : I 0 2 = nI n) (hn : n + 20 ≤ 700) : P_X7_feed_20 (f + 1) I a b c d e 3 = P_X7_feed_20 f (qc_u2 I 1 (n + 3) ((a >>> ((0 : Int32) &&& 31)) &&& 255)) a b c d e 4 := by
  rw [P_X7_feed_20, if_neg (by decide), if_neg (by decide), Option.bind_some, hI, lw_nk (i := n) (k := 3) (v := 3) rfl, if_pos (nI_in (by omega) (by decide)), nI_clamp (by omega)]
  unfold qc_let
  dsimp only
  rw [show (24 : Int32) - (8 : Int32) * ((3 : Int32) - (3 : Int32) / (4 : Int32) * (4 : Int32)) = 0 from by decide, show (3 : Int32) + (1 : Int32) = 4 from by decide]
theorem fd_4 {f : Nat} {I : Nat → Nat → Int32} {a b c d e : Int32} {n : Nat} (hI : I 0 2 = nI n) (hn : n + 20 ≤ 700) : P_X7_feed_20 (f + 1) I a b c d e 4 = P_X7_feed_20 f (qc_u2 I 1 (n + 4) ((b >>> ((24 : Int32) &&& 31)) &&& 255)) a b c d e 5 := by
  rw [P_X7_feed_20, if_neg (by decide), if_pos (by decide), if_neg (by decide), Option.bind_some, hI, lw_nk (i := n) (k := 4) (v := 4) rfl, if_pos (nI_in (by omega) (by decide)), nI_clamp (by omega)]
  unfold qc_let
  dsimp only
  rw [show (24 : Int32) - (8 : Int32) * ((4 : Int32) - (4 : Int32) / (4 : Int32) * (4 : Int32)) = 24 from by decide, show (4 : Int32) + (1 : Int32) = 5 from by decide]
theorem fd_5 {f : Nat} {I : Nat → Nat → Int32} {a b c d e : Int32} {n : Nat} (hI : I 0 2 = nI n) (hn : n + 20 ≤ 700) : P_X7_feed_20 (f + 1) I a b c d e 5 = P_X7_feed_20 f (qc_u2 I 1 (n + 5) ((b >>> ((16 : Int32) &&& 31)) &&& 255)) a b c d e 6 := by
  rw [P_X7_feed_20, if_neg (by decide), if_pos (by decide), if_neg (by decide), Option.bind_some, hI, lw_nk (i := n) (k := 5) (v := 5) rfl, if_pos (nI_in (by omega) (by decide)), nI_clamp (by omega)]
  unfold qc_let
  dsimp only
  rw [show (24 : Int32) - (8 : Int32) * ((5 : Int32) - (5 : Int32) / (4 : Int32) * (4 : Int32)) = 16 from by decide, show (5 : Int32) + (1 : Int32) = 6 from by decide]
theorem fd_6 {f : Nat} {I : Nat → Nat → Int32} {a b c d e : Int32} {n : Nat} (hI : I 0 2 = nI n) (hn : n + 20 ≤ 700) : P_X7_feed_20 (f + 1) I a b c d e 6 = P_X7_feed_20 f (qc_u2 I 1 (n + 6) ((b >>> ((8 : Int32) &&& 31)) &&& 255)) a b c d e 7 := by
  rw [P_X7_feed_20, if_neg (by decide), if_pos (by decide), if_neg (by decide), Option.bind_some, hI, lw_nk (i := n) (k := 6) (v := 6) rfl, if_pos (nI_in (by omega) (by decide)), nI_clamp (by omega)]
  unfold qc_let
  dsimp only
  rw [show (24 : Int32) - (8 : Int32) * ((6 : Int32) - (6 : Int32) / (4 : Int32) * (4 : Int32)) = 8 from by decide, show (6 : Int32) + (1 : Int32) = 7 from by decide]
theorem fd_7 {f : Nat} {I : Nat → Nat → Int32} {a b c d e : Int32} {n : Nat} (hI : I 0 2 = nI n) (hn : n + 20 ≤ 700) : P_X7_feed_20 (f + 1) I a b c d e 7 = P_X7_feed_20 f (qc_u2 I 1 (n + 7) ((b >>> ((0 : Int32) &&& 31)) &&& 255)) a b c d e 8 := by
  rw [P_X7_feed_20, if_neg (by decide), if_pos (by decide), if_neg (by decide), Option.bind_some, hI, lw_nk (i := n) (k := 7) (v := 7) rfl, if_pos (nI_in (by omega) (by decide)), nI_clamp (by omega)]
  unfold qc_let
  dsimp only
  rw [show (24 : Int32) - (8 : Int32) * ((7 : Int32) - (7 : Int32) / (4 : Int32) * (4 : Int32)) = 0 from by decide, show (7 : Int32) + (1 : Int32) = 8 from by decide]
theorem fd_8 {f : Nat} {I : Nat → Nat → Int32} {a b c d e : Int32} {n : Nat} (hI : I 0 2 = nI n) (hn : n + 20 ≤ 700) : P_X7_feed_20 (f + 1) I a b c d e 8 = P_X7_feed_20 f (qc_u2 I 1 (n + 8) ((c >>> ((24 : Int32) &&& 31)) &&& 255)) a b c d e 9 := by
  rw [P_X7_feed_20, if_neg (by decide), if_pos (by decide), if_pos (by decide), if_neg (by decide), Option.bind_some, hI, lw_nk (i := n) (k := 8) (v := 8) rfl, if_pos (nI_in (by omega) (by decide)), nI_clamp (by omega)]
  unfold qc_let
  dsimp only
  rw [show (24 : Int32) - (8 : Int32) * ((8 : Int32) - (8 : Int32) / (4 : Int32) * (4 : Int32)) = 24 from by decide, show (8 : Int32) + (1 : Int32) = 9 from by decide]
theorem fd_9 {f : Nat} {I : Nat → Nat → Int32} {a b c d e : Int32} {n : Nat} (hI : I 0 2 = nI n) (hn : n + 20 ≤ 700) : P_X7_feed_20 (f + 1) I a b c d e 9 = P_X7_feed_20 f (qc_u2 I 1 (n + 9) ((c >>> ((16 : Int32) &&& 31)) &&& 255)) a b c d e 10 := by
  rw [P_X7_feed_20, if_neg (by decide), if_pos (by decide), if_pos (by decide), if_neg (by decide), Option.bind_some, hI, lw_nk (i := n) (k := 9) (v := 9) rfl, if_pos (nI_in (by omega) (by decide)), nI_clamp (by omega)]
  unfold qc_let
  dsimp only
  rw [show (24 : Int32) - (8 : Int32) * ((9 : Int32) - (9 : Int32) / (4 : Int32) * (4 : Int32)) = 16 from by decide, show (9 : Int32) + (1 : Int32) = 10 from by decide]
theorem fd_10 {f : Nat} {I : Nat → Nat → Int32} {a b c d e : Int32} {n : Nat} (hI : I 0 2 = nI n) (hn : n + 20 ≤ 700) : P_X7_feed_20 (f + 1) I a b c d e 10 = P_X7_feed_20 f (qc_u2 I 1 (n + 10) ((c >>> ((8 : Int32) &&& 31)) &&& 255)) a b c d e 11 := by
  rw [P_X7_feed_20, if_neg (by decide), if_pos (by decide), if_pos (by decide), if_neg (by decide), Option.bind_some, hI, lw_nk (i := n) (k := 10) (v := 10) rfl, if_pos (nI_in (by omega) (by decide)), nI_clamp (by omega)]
  unfold qc_let
  dsimp only
  rw [show (24 : Int32) - (8 : Int32) * ((10 : Int32) - (10 : Int32) / (4 : Int32) * (4 : Int32)) = 8 from by decide, show (10 : Int32) + (1 : Int32) = 11 from by decide]
theorem fd_11 {f : Nat} {I : Nat → Nat → Int32} {a b c d e : Int32} {n : Nat} (hI : I 0 2 = nI n) (hn : n + 20 ≤ 700) : P_X7_feed_20 (f + 1) I a b c d e 11 = P_X7_feed_20 f (qc_u2 I 1 (n + 11) ((c >>> ((0 : Int32) &&& 31)) &&& 255)) a b c d e 12 := by
  rw [P_X7_feed_20, if_neg (by decide), if_pos (by decide), if_pos (by decide), if_neg (by decide), Option.bind_some, hI, lw_nk (i := n) (k := 11) (v := 11) rfl, if_pos (nI_in (by omega) (by decide)), nI_clamp (by omega)]
  unfold qc_let
  dsimp only
  rw [show (24 : Int32) - (8 : Int32) * ((11 : Int32) - (11 : Int32) / (4 : Int32) * (4 : Int32)) = 0 from by decide, show (11 : Int32) + (1 : Int32) = 12 from by decide]
theorem fd_12 {f : Nat} {I : Nat → Nat → Int32} {a b c d e : Int32} {n : Nat} (hI : I 0 2 = nI n) (hn : n + 20 ≤ 700) : P_X7_feed_20 (f + 1) I a b c d e 12 = P_X7_feed_20 f (qc_u2 I 1 (n + 12) ((d >>> ((24 : Int32) &&& 31)) &&& 255)) a b c d e 13 := by
  rw [P_X7_feed_20, if_neg (by decide), if_pos (by decide), if_pos (by decide), if_pos (by decide), if_neg (by decide), Option.bind_some, hI, lw_nk (i := n) (k := 12) (v := 12) rfl, if_pos (nI_in (by omega) (by decide)), nI_clamp (by omega)]
  unfold qc_let
  dsimp only
  rw [show (24 : Int32) - (8 : Int32) * ((12 : Int32) - (12 : Int32) / (4 : Int32) * (4 : Int32)) = 24 from by decide, show (12 : Int32) + (1 : Int32) = 13 from by decide]
theorem fd_13 {f : Nat} {I : Nat → Nat → Int32} {a b c d e : Int32} {n : Nat} (hI : I 0 2 = nI n) (hn : n + 20 ≤ 700) : P_X7_feed_20 (f + 1) I a b c d e 13 = P_X7_feed_20 f (qc_u2 I 1 (n + 13) ((d >>> ((16 : Int32) &&& 31)) &&& 255)) a b c d e 14 := by
  rw [P_X7_feed_20, if_neg (by decide), if_pos (by decide), if_pos (by decide), if_pos (by decide), if_neg (by decide), Option.bind_some, hI, lw_nk (i := n) (k := 13) (v := 13) rfl, if_pos (nI_in (by omega) (by decide)), nI_clamp (by omega)]
  unfold qc_let
  dsimp only
  rw [show (24 : Int32) - (8 : Int32) * ((13 : Int32) - (13 : Int32) / (4 : Int32) * (4 : Int32)) = 16 from by decide, show (13 : Int32) + (1 : Int32) = 14 from by decide]
theorem fd_14 {f : Nat} {I : Nat → Nat → Int32} {a b c d e : Int32} {n : Nat} (hI : I 0 2 = nI n) (hn : n + 20 ≤ 700) : P_X7_feed_20 (f + 1) I a b c d e 14 = P_X7_feed_20 f (qc_u2 I 1 (n + 14) ((d >>> ((8 : Int32) &&& 31)) &&& 255)) a b c d e 15 := by
  rw [P_X7_feed_20, if_neg (by decide), if_pos (by decide), if_pos (by decide), if_pos (by decide), if_neg (by decide), Option.bind_some, hI, lw_nk (i := n) (k := 14) (v := 14) rfl, if_pos (nI_in (by omega) (by decide)), nI_clamp (by omega)]
  unfold qc_let
  dsimp only
  rw [show (24 : Int32) - (8 : Int32) * ((14 : Int32) - (14 : Int32) / (4 : Int32) * (4 : Int32)) = 8 from by decide, show (14 : Int32) + (1 : Int32) = 15 from by decide]
theorem fd_15 {f : Nat} {I : Nat → Nat → Int32} {a b c d e : Int32} {n : Nat} (hI : I 0 2 = nI n) (hn : n + 20 ≤ 700) : P_X7_feed_20 (f + 1) I a b c d e 15 = P_X7_feed_20 f (qc_u2 I 1 (n + 15) ((d >>> ((0 : Int32) &&& 31)) &&& 255)) a b c d e 16 := by
  rw [P_X7_feed_20, if_neg (by decide), if_pos (by decide), if_pos (by decide), if_pos (by decide), if_neg (by decide), Option.bind_some, hI, lw_nk (i := n) (k := 15) (v := 15) rfl, if_pos (nI_in (by omega) (by decide)), nI_clamp (by omega)]
  unfold qc_let
  dsimp only
  rw [show (24 : Int32) - (8 : Int32) * ((15 : Int32) - (15 : Int32) / (4 : Int32) * (4 : Int32)) = 0 from by decide, show (15 : Int32) + (1 : Int32) = 16 from by decide]
theorem fd_16 {f : Nat} {I : Nat → Nat → Int32} {a b c d e : Int32} {n : Nat} (hI : I 0 2 = nI n) (hn : n + 20 ≤ 700) : P_X7_feed_20 (f + 1) I a b c d e 16 = P_X7_feed_20 f (qc_u2 I 1 (n + 16) ((e >>> ((24 : Int32) &&& 31)) &&& 255)) a b c d e 17 := by
  rw [P_X7_feed_20, if_neg (by decide), if_pos (by decide), if_pos (by decide), if_pos (by decide), if_pos (by decide), Option.bind_some, hI, lw_nk (i := n) (k := 16) (v := 16) rfl, if_pos (nI_in (by omega) (by decide)), nI_clamp (by omega)]
  unfold qc_let
  dsimp only
  rw [show (24 : Int32) - (8 : Int32) * ((16 : Int32) - (16 : Int32) / (4 : Int32) * (4 : Int32)) = 24 from by decide, show (16 : Int32) + (1 : Int32) = 17 from by decide]
theorem fd_17 {f : Nat} {I : Nat → Nat → Int32} {a b c d e : Int32} {n : Nat} (hI : I 0 2 = nI n) (hn : n + 20 ≤ 700) : P_X7_feed_20 (f + 1) I a b c d e 17 = P_X7_feed_20 f (qc_u2 I 1 (n + 17) ((e >>> ((16 : Int32) &&& 31)) &&& 255)) a b c d e 18 := by
  rw [P_X7_feed_20, if_neg (by decide), if_pos (by decide), if_pos (by decide), if_pos (by decide), if_pos (by decide), Option.bind_some, hI, lw_nk (i := n) (k := 17) (v := 17) rfl, if_pos (nI_in (by omega) (by decide)), nI_clamp (by omega)]
  unfold qc_let
  dsimp only
  rw [show (24 : Int32) - (8 : Int32) * ((17 : Int32) - (17 : Int32) / (4 : Int32) * (4 : Int32)) = 16 from by decide, show (17 : Int32) + (1 : Int32) = 18 from by decide]
theorem fd_18 {f : Nat} {I : Nat → Nat → Int32} {a b c d e : Int32} {n : Nat} (hI : I 0 2 = nI n) (hn : n + 20 ≤ 700) : P_X7_feed_20 (f + 1) I a b c d e 18 = P_X7_feed_20 f (qc_u2 I 1 (n + 18) ((e >>> ((8 : Int32) &&& 31)) &&& 255)) a b c d e 19 := by
  rw [P_X7_feed_20, if_neg (by decide), if_pos (by decide), if_pos (by decide), if_pos (by decide), if_pos (by decide), Option.bind_some, hI, lw_nk (i := n) (k := 18) (v := 18) rfl, if_pos (nI_in (by omega) (by decide)), nI_clamp (by omega)]
  unfold qc_let
  dsimp only
  rw [show (24 : Int32) - (8 : Int32) * ((18 : Int32) - (18 : Int32) / (4 : Int32) * (4 : Int32)) = 8 from by decide, show (18 : Int32) + (1 : Int32) = 19 from by decide]
theorem fd_19 {f : Nat} {I : Nat → Nat → Int32} {a b c d e : Int32} {n : Nat} (hI : I 0 2 = nI n) (hn : n + 20 ≤ 700) : P_X7_feed_20 (f + 1) I a b c d e 19 = P_X7_feed_20 f (qc_u2 I 1 (n + 19) ((e >>> ((0 : Int32) &&& 31)) &&& 255)) a b c d e 20 := by
  rw [P_X7_feed_20, if_neg (by decide), if_pos (by decide), if_pos (by decide), if_pos (by decide), if_pos (by decide), Option.bind_some, hI, lw_nk (i := n) (k := 19) (v := 19) rfl, if_pos (nI_in (by omega) (by decide)), nI_clamp (by omega)]
  unfold qc_let
  dsimp only
  rw [show (24 : Int32) - (8 : Int32) * ((19 : Int32) - (19 : Int32) / (4 : Int32) * (4 : Int32)) = 0 from by decide, show (19 : Int32) + (1 : Int32) = 20 from by decide]
