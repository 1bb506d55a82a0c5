/-! THE RELATION between the class's pool and the reference's -/
abbrev iV : Type := (Nat → Fin 61) × (Nat → Fin 31) × (Nat → Fin 256) × (Nat → Bool)
/-- an image, in the class at a token, in the reference at a place of its row -/
def IX (I : Nat → Nat → Int32) (J : Nat → Nat → Int64) (q : Nat) (m : iV) : Prop :=
  (∀ u, u < 6 → I (q + 1 + 0) u = zI (m.1 u).val) ∧ (∀ u, u < 6 → I (q + 1 + 1) u = zI (m.2.1 u).val) ∧ (∀ u, u < 6 → I (q + 1 + 2) u = zI (m.2.2.1 u).val) ∧ (∀ c, c < 64 → bJ (J q 3) c = m.2.2.2 c)
def IM (M : Nat → Nat → Int32) (us k : Nat) (m : iV) : Prop :=
  (∀ u, u < us → M 14 (79 * k + u) = zI (m.1 u).val) ∧ (∀ u, u < us → M 14 (79 * k + (6 + u)) = zI (m.2.1 u).val) ∧ (∀ u, u < us → M 14 (79 * k + (73 + u)) = zI (m.2.2.1 u).val) ∧ (∀ c, 1 ≤ c → c ≤ 60 → M 14 (79 * k + (12 + c)) = bI (m.2.2.2 c))
def IR (I : Nat → Nat → Int32) (J : Nat → Nat → Int64) (M : Nat → Nat → Int32) (V : sV) (q k : Nat) : Prop :=
  ∃ m : iV, IX I J q m ∧ IM M (v_us V).val k m ∧ ∀ c, c = 0 ∨ (v_bd V).val < c → c < 64 → m.2.2.2 c = false
/-- what is told, in the reference -/
def TM (M : Nat → Nat → Int32) (V : sV) : Prop :=
  M 2 0 = zI (v_bd V).val ∧ M 2 1 = zI (v_gd V).val ∧ M 2 2 = zI (v_sp V).val ∧ M 2 3 = zI (v_od V).val ∧
  (∀ u, u < (v_us V).val → M 8 u = zI (v_hi V u).val ∧ (v_lo V u).val ≤ (v_hi V u).val ∧ (v_hi V u).val ≤ (v_bd V).val) ∧
  4 ≤ (v_bd V).val ∧ 1 ≤ (v_sp V).val ∧ (∀ c, (v_bd V).val < c → c ≤ 60 → M 13 (12 + c) = zI 0) ∧ (∀ c, c = 0 ∨ (v_bd V).val < c → c < 64 → v_sh V c = false)
/-- the tape and the fault -/
def TP (I M : Nat → Nat → Int32) : Prop :=
  I 1 = M 1 ∧ (∃ n : Nat, n ≤ 700 ∧ I 0 1 = zI n ∧ M 0 2 = zI n) ∧ (∀ k, k < 700 → ∃ b : Fin 256, I 1 k = zI b.val) ∧ I 0 2 = M 0 23 ∧ I 0 3 = M 0 24
/-- the images -/
def HM (I : Nat → Nat → Int32) (J : Nat → Nat → Int64) (w : Nat → Nat) (M : Nat → Nat → Int32) (V : sV) (n : Nat) : Prop :=
  n ≤ 20 ∧ I 35 1 = zI n ∧ M 0 28 = zI n ∧ ∀ k, k < n → IR I J M V (w k) k
def KM (I : Nat → Nat → Int32) (J : Nat → Nat → Int64) (M : Nat → Nat → Int32) (V : sV) : Prop :=
  ∃ b : Bool, I 0 10 = bI b ∧ M 0 29 = bI b ∧ (b = true → IR I J M V 117 20)
def WW (w : Nat → Nat) : Prop :=
  (∀ j, 12 ≤ w j ∧ w j < 121) ∧ (∀ j, j < 20 → 37 ≤ w j ∧ w j < 117 ∧ (w j - 37) % 4 = 0) ∧ (∀ i j, i < 20 → j < 20 → w i = w j → i = j)
/-- a row of links, as a scene has it: the trial scene's is so from the start, and a ROW reads it -/
def LT (r : Nat → Int32) : Prop := ∀ k, k < 9 → ∃ v : Fin 101, r k = zI (lkX k v)
/-- names and the seed -/
def NM (I M : Nat → Nat → Int32) (V : sV) : Prop :=
  (∀ u, u < (v_us V).val → I 5 u = M 4 u) ∧ I 2 5 = M 2 9 ∧ (∃ s : Fin 100000, I 2 5 = zI s.val) ∧ LT (I 14)
def RelV (V : sV) (n : Nat) (I : Nat → Nat → Int32) (J : Nat → Nat → Int64) (w : Nat → Nat) (M : Nat → Nat → Int32) : Prop :=
  SX I J 2 V ∧ MX M V ∧ TM M V ∧ TP I M ∧ HM I J w M V n ∧ KM I J M V ∧ WW w ∧ NM I M V
def Rel (I : Nat → Nat → Int32) (J : Nat → Nat → Int64) (w : Nat → Nat) (M : Nat → Nat → Int32) : Prop := ∃ V n, RelV V n I J w M
theorem rel_w {I : Nat → Nat → Int32} {J : Nat → Nat → Int64} {w : Nat → Nat} {M : Nat → Nat → Int32} (h : Rel I J w M) : ∀ j, 12 ≤ w j ∧ w j < 121 := by
  obtain ⟨V, n, _, _, _, _, _, _, h, _⟩ := h
  exact h.1
/-- what of the pools the relation doesn't speak of -/
def eX (I I' : Nat → Nat → Int32) : Prop := (∀ t, (t ≤ 11 ∨ 35 ≤ t) → I' t = I t) ∧ (LT (I 14) → LT (I' 14))
def eJ (J J' : Nat → Nat → Int64) : Prop := ∀ t, (t ≤ 11 ∨ 35 ≤ t) → J' t = J t
def eM (M M' : Nat → Nat → Int32) : Prop := (∀ t, (t = 1 ∨ t = 2 ∨ t = 4 ∨ t = 5 ∨ t = 7 ∨ t = 8 ∨ t = 11 ∨ t = 13 ∨ t = 14) → M' t = M t) ∧ (∀ j, j ≠ 0 → j ≠ 41 → j ≠ 42 → j ≠ 44 → M' 0 j = M 0 j)
theorem eX_r (I : Nat → Nat → Int32) : eX I I := ⟨fun _ _ => rfl, id⟩
theorem eX_m {I I' : Nat → Nat → Int32} (h : ∀ t, (t ≤ 11 ∨ t = 14 ∨ 35 ≤ t) → I' t = I t) : eX I I' := ⟨fun t ht => h t (by omega), fun x => by rw [h 14 (by omega)]; exact x⟩
theorem eJ_r (J : Nat → Nat → Int64) : eJ J J := fun _ _ => rfl
theorem eM_r (M : Nat → Nat → Int32) : eM M M := ⟨fun _ _ => rfl, fun _ _ _ _ _ => rfl⟩
theorem eX_t {I I' I'' : Nat → Nat → Int32} (h : eX I I') (h' : eX I' I'') : eX I I'' := ⟨fun t ht => (h'.1 t ht).trans (h.1 t ht), fun x => h'.2 (h.2 x)⟩
theorem eJ_t {J J' J'' : Nat → Nat → Int64} (h : eJ J J') (h' : eJ J' J'') : eJ J J'' := fun t ht => (h' t ht).trans (h t ht)
theorem eM_t {M M' M'' : Nat → Nat → Int32} (h : eM M M') (h' : eM M' M'') : eM M M'' := ⟨fun t ht => (h'.1 t ht).trans (h.1 t ht), fun j a b c d => (h'.2 j a b c d).trans (h.2 j a b c d)⟩
theorem SX_e {I I' : Nat → Nat → Int32} {J J' : Nat → Nat → Int64} {p : Nat} {V : sV} (hI : ∀ t, p ≤ t → t ≤ p + 9 → I' t = I t) (hJ : J' p = J p) (h : SX I J p V) : SX I' J' p V := by
  unfold SX at *
  rw [hI p (by omega) (by omega), hI (p + 1 + 0) (by omega) (by omega), hI (p + 1 + 1) (by omega) (by omega), hI (p + 1 + 3) (by omega) (by omega), hI (p + 1 + 4) (by omega) (by omega), hI (p + 1 + 5) (by omega) (by omega), hI (p + 1 + 6) (by omega) (by omega), hI (p + 1 + 7) (by omega) (by omega), hI (p + 1 + 8) (by omega) (by omega), hJ]
  exact h
theorem MX_e {M M' : Nat → Nat → Int32} {V : sV} (e : eM M M') (h : MX M V) : MX M' V := by
  unfold MX at *
  rw [e.1 2 (by omega), e.1 5 (by omega), e.1 7 (by omega), e.1 8 (by omega), e.1 11 (by omega), e.1 13 (by omega), e.2 30 (by omega) (by omega) (by omega) (by omega), e.2 31 (by omega) (by omega) (by omega) (by omega), e.2 32 (by omega) (by omega) (by omega) (by omega), e.2 33 (by omega) (by omega) (by omega) (by omega)]
  exact h
theorem TM_e {M M' : Nat → Nat → Int32} {V : sV} (e : eM M M') (h : TM M V) : TM M' V := by
  unfold TM at *
  rw [e.1 2 (by omega), e.1 8 (by omega), e.1 13 (by omega)]
  exact h
theorem IR_e {I I' : Nat → Nat → Int32} {J J' : Nat → Nat → Int64} {M M' : Nat → Nat → Int32} {V : sV} {q k : Nat} (hq : 37 ≤ q) (hI : eX I I') (hJ : eJ J J') (e : eM M M') (h : IR I J M V q k) : IR I' J' M' V q k := by
  unfold IR IX IM at *
  rw [hI.1 (q + 1 + 0) (by omega), hI.1 (q + 1 + 1) (by omega), hI.1 (q + 1 + 2) (by omega), hJ q (by omega), e.1 14 (by omega)]
  exact h
theorem RelV_e {V : sV} {n : Nat} {I I' : Nat → Nat → Int32} {J J' : Nat → Nat → Int64} {w : Nat → Nat} {M M' : Nat → Nat → Int32} (hI : eX I I') (hJ : eJ J J') (e : eM M M') (h : RelV V n I J w M) : RelV V n I' J' w M' := by
  obtain ⟨h1, h2, h3, h4, h5, h6, h7, h8⟩ := h
  refine ⟨SX_e (fun t _ _ => hI.1 t (by omega)) (hJ 2 (by omega)) h1, MX_e e h2, TM_e e h3, ?_, ?_, ?_, h7, ?_⟩
  · unfold TP at *
    rw [hI.1 0 (by omega), hI.1 1 (by omega), e.1 1 (by omega), e.2 2 (by omega) (by omega) (by omega) (by omega), e.2 23 (by omega) (by omega) (by omega) (by omega), e.2 24 (by omega) (by omega) (by omega) (by omega)]
    exact h4
  · unfold HM at *
    rw [hI.1 35 (by omega), e.2 28 (by omega) (by omega) (by omega) (by omega)]
    exact ⟨h5.1, h5.2.1, h5.2.2.1, fun k hk => IR_e (h7.2.1 k (by omega)).1 hI hJ e (h5.2.2.2 k hk)⟩
  · unfold KM at *
    rw [hI.1 0 (by omega), e.2 29 (by omega) (by omega) (by omega) (by omega)]
    obtain ⟨b, e1, e2, e3⟩ := h6
    exact ⟨b, e1, e2, fun hb => IR_e (by omega) hI hJ e (e3 hb)⟩
  · unfold NM at *
    rw [hI.1 2 (by omega), hI.1 5 (by omega), e.1 2 (by omega), e.1 4 (by omega)]
    exact ⟨h8.1, h8.2.1, h8.2.2.1, hI.2 h8.2.2.2⟩
theorem eM_00 (M : Nat → Nat → Int32) (x : Int32) : eM M (qc_u2 M 0 0 x) := by
  refine ⟨fun t ht => ?_, fun j h0 _ _ _ => ?_⟩
  · unfold qc_u2 qc_u
    rw [if_neg (by omega)]
  · rw [qG, if_neg (by omega)]
theorem RelV_0 {V : sV} {n : Nat} {I : Nat → Nat → Int32} {J : Nat → Nat → Int64} {w : Nat → Nat} {M : Nat → Nat → Int32} (h : RelV V n I J w M) (x : Int32) : RelV V n I J w (qc_u2 M 0 0 x) := RelV_e (eX_r I) (eJ_r J) (eM_00 M x) h
