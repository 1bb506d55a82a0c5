def kX (t : Nat) : Nat := [6, 8, 4, 8, 8, 8, 8, 8, 8, 8, 8, 8, 4, 8, 8, 8, 8, 8, 8, 8, 8, 8, 2, 11, 8, 8, 8, 8, 8, 8, 8, 8, 8, 5, 8, 0, 10, 1, 8, 8, 8, 1, 8, 8, 8, 1, 8, 8, 8, 1, 8, 8, 8, 1, 8, 8, 8, 1, 8, 8, 8, 1, 8, 8, 8, 1, 8, 8, 8, 1, 8, 8, 8, 1, 8, 8, 8, 1, 8, 8, 8, 1, 8, 8, 8, 1, 8, 8, 8, 1, 8, 8, 8, 1, 8, 8, 8, 1, 8, 8, 8, 1, 8, 8, 8, 1, 8, 8, 8, 1, 8, 8, 8, 1, 8, 8, 8, 1, 8, 8, 8, 3, 4, 8, 8, 8, 8, 8, 8, 8, 8, 8].getD t 0
def nX (t : Nat) : Nat := [0, 700, 0, 3, 9, 8, 8, 8, 8, 8, 8, 8, 0, 3, 9, 8, 8, 8, 8, 8, 8, 8, 0, 8, 700, 700, 700, 700, 700, 700, 700, 700, 8, 0, 6, 0, 20, 0, 6, 6, 6, 0, 6, 6, 6, 0, 6, 6, 6, 0, 6, 6, 6, 0, 6, 6, 6, 0, 6, 6, 6, 0, 6, 6, 6, 0, 6, 6, 6, 0, 6, 6, 6, 0, 6, 6, 6, 0, 6, 6, 6, 0, 6, 6, 6, 0, 6, 6, 6, 0, 6, 6, 6, 0, 6, 6, 6, 0, 6, 6, 6, 0, 6, 6, 6, 0, 6, 6, 6, 0, 6, 6, 6, 0, 6, 6, 6, 0, 6, 6, 6, 0, 0, 3, 9, 8, 8, 8, 8, 8, 8, 8].getD t 0
def rXl : List (List (Option Nat)) := [[some 1, none, none, none, some 2, some 12, some 22, some 33, some 35, some 117, none], [], [none, none, none, none, none, none, none, some 3, some 4, some 5, some 6, some 7, some 8, some 9, some 10, some 11], [], [], [], [], [], [], [], [], [], [none, none, none, none, none, none, none, some 13, some 14, some 15, some 16, some 17, some 18, some 19, some 20, some 21], [], [], [], [], [], [], [], [], [], [some 23, none, none, some 32, none, none, none], [some 24, some 25, some 26, some 27, some 28, some 29, some 30, some 31], [], [], [], [], [], [], [], [], [], [some 34, none, none], [], [some 36, none], [], [some 38, some 39, some 40, none], [], [], [], [some 42, some 43, some 44, none], [], [], [], [some 46, some 47, some 48, none], [], [], [], [some 50, some 51, some 52, none], [], [], [], [some 54, some 55, some 56, none], [], [], [], [some 58, some 59, some 60, none], [], [], [], [some 62, some 63, some 64, none], [], [], [], [some 66, some 67, some 68, none], [], [], [], [some 70, some 71, some 72, none], [], [], [], [some 74, some 75, some 76, none], [], [], [], [some 78, some 79, some 80, none], [], [], [], [some 82, some 83, some 84, none], [], [], [], [some 86, some 87, some 88, none], [], [], [], [some 90, some 91, some 92, none], [], [], [], [some 94, some 95, some 96, none], [], [], [], [some 98, some 99, some 100, none], [], [], [], [some 102, some 103, some 104, none], [], [], [], [some 106, some 107, some 108, none], [], [], [], [some 110, some 111, some 112, none], [], [], [], [some 114, some 115, some 116, none], [], [], [], [some 118, some 119, some 120, none], [], [], [], [some 1, none, some 122, none, none, none, none, none, none, none, none, none, none, none], [none, none, none, none, none, none, none, some 123, some 124, some 125, some 126, some 127, some 128, some 129, some 130, some 131], [], [], [], [], [], [], [], [], []]
/-- w: the images in their order -/
def rX (w : Nat → Nat) (t j : Nat) : Option Nat := if t = 36 then some (w j) else (rXl.getD t []).getD j none
def qc_scl (i : Nat) : Nat := if i = 0 then 3 else if i = 1 then 9 else 8
def qc_sc (n p : Nat) : Prop := p + 9 < n ∧ kX p = 4 ∧ ∀ i, i < 9 → kX (p + 1 + i) = 8 ∧ nX (p + 1 + i) = qc_scl i ∧ ∀ w, rX w p (7 + i) = some (p + 1 + i)
def qc_im (n q : Nat) : Prop := q + 3 < n ∧ kX q = 1 ∧ ∀ i, i < 3 → kX (q + 1 + i) = 8 ∧ nX (q + 1 + i) = 6 ∧ ∀ w, rX w q i = some (q + 1 + i)
theorem qc_ltp {n p i : Nat} (h : p + 9 < n) (hi : i < 9) : p + 1 + i < n := by omega
theorem qc_ltq {n p i : Nat} (h : p + 3 < n) (hi : i < 3) : p + 1 + i < n := by omega
theorem qc_ltp0 {n p k : Nat} (h : p + k < n) : p < n := by omega
theorem qc_inlt {i : Int32} {n : Nat} (h : qc_in i n) : i.toNatClampNeg < n := Nat.not_le.mp fun q => h (Or.inr q)
theorem qc_sc2 {n : Nat} (hn : 121 ≤ n) : qc_sc n 2 := by
  refine ⟨by omega, rfl, fun i hi => ?_⟩
  match i, hi with
  | 0, _ => exact ⟨rfl, rfl, fun _ => rfl⟩
  | 1, _ => exact ⟨rfl, rfl, fun _ => rfl⟩
  | 2, _ => exact ⟨rfl, rfl, fun _ => rfl⟩
  | 3, _ => exact ⟨rfl, rfl, fun _ => rfl⟩
  | 4, _ => exact ⟨rfl, rfl, fun _ => rfl⟩
  | 5, _ => exact ⟨rfl, rfl, fun _ => rfl⟩
  | 6, _ => exact ⟨rfl, rfl, fun _ => rfl⟩
  | 7, _ => exact ⟨rfl, rfl, fun _ => rfl⟩
  | 8, _ => exact ⟨rfl, rfl, fun _ => rfl⟩
theorem qc_sc12 {n : Nat} (hn : 121 ≤ n) : qc_sc n 12 := by
  refine ⟨by omega, rfl, fun i hi => ?_⟩
  match i, hi with
  | 0, _ => exact ⟨rfl, rfl, fun _ => rfl⟩
  | 1, _ => exact ⟨rfl, rfl, fun _ => rfl⟩
  | 2, _ => exact ⟨rfl, rfl, fun _ => rfl⟩
  | 3, _ => exact ⟨rfl, rfl, fun _ => rfl⟩
  | 4, _ => exact ⟨rfl, rfl, fun _ => rfl⟩
  | 5, _ => exact ⟨rfl, rfl, fun _ => rfl⟩
  | 6, _ => exact ⟨rfl, rfl, fun _ => rfl⟩
  | 7, _ => exact ⟨rfl, rfl, fun _ => rfl⟩
  | 8, _ => exact ⟨rfl, rfl, fun _ => rfl⟩
theorem qc_sc122 {n : Nat} (hn : 132 ≤ n) : qc_sc n 122 := by
  refine ⟨by omega, rfl, fun i hi => ?_⟩
  match i, hi with
  | 0, _ => exact ⟨rfl, rfl, fun _ => rfl⟩
  | 1, _ => exact ⟨rfl, rfl, fun _ => rfl⟩
  | 2, _ => exact ⟨rfl, rfl, fun _ => rfl⟩
  | 3, _ => exact ⟨rfl, rfl, fun _ => rfl⟩
  | 4, _ => exact ⟨rfl, rfl, fun _ => rfl⟩
  | 5, _ => exact ⟨rfl, rfl, fun _ => rfl⟩
  | 6, _ => exact ⟨rfl, rfl, fun _ => rfl⟩
  | 7, _ => exact ⟨rfl, rfl, fun _ => rfl⟩
  | 8, _ => exact ⟨rfl, rfl, fun _ => rfl⟩
theorem qc_im117 {n : Nat} (hn : 121 ≤ n) : qc_im n 117 := by
  refine ⟨by omega, rfl, fun i hi => ?_⟩
  match i, hi with
  | 0, _ => exact ⟨rfl, rfl, fun _ => rfl⟩
  | 1, _ => exact ⟨rfl, rfl, fun _ => rfl⟩
  | 2, _ => exact ⟨rfl, rfl, fun _ => rfl⟩
/-- an image of the history -/
abbrev qc_ti (t : Nat) : Prop := 37 ≤ t ∧ t < 117 ∧ (t - 37) % 4 = 0
theorem qc_imd : ∀ k, k < 20 → kX (37 + 4 * k) = 1 ∧ ∀ i, i < 3 → kX (37 + 4 * k + 1 + i) = 8 ∧ nX (37 + 4 * k + 1 + i) = 6 ∧ (rXl.getD (37 + 4 * k) []).getD i none = some (37 + 4 * k + 1 + i) := by decide +kernel
theorem qc_imt {n t : Nat} (hn : 121 ≤ n) (h : qc_ti t) : qc_im n t := by
  obtain ⟨h1, h2, h3⟩ := h
  obtain ⟨k, rfl⟩ : ∃ k, t = 37 + 4 * k := ⟨(t - 37) / 4, by omega⟩
  obtain ⟨g1, g2⟩ := qc_imd k (by omega)
  refine ⟨by omega, g1, fun i hi => ⟨(g2 i hi).1, (g2 i hi).2.1, fun w => ?_⟩⟩
  unfold rX
  rw [if_neg (by omega)]
  exact (g2 i hi).2.2
theorem qc_cold : ∀ j, j < 8 → kX (24 + j) = 8 ∧ nX (24 + j) = 700 ∧ (rXl.getD 23 []).getD j none = some (24 + j) := by decide +kernel
theorem kX_col (j : Nat) (h : j < 8) : kX (24 + j) = 8 := (qc_cold j h).1
theorem nX_col (j : Nat) (h : j < 8) : nX (24 + j) = 700 := (qc_cold j h).2.1
theorem rX_col {w : Nat → Nat} (j : Nat) (h : j < 8) : rX w 23 j = some (24 + j) := by
  unfold rX
  rw [if_neg (by decide)]
  exact (qc_cold j h).2.2
theorem kX_col_lt {j : Nat} (h : j < 8) : 24 + j < 121 := by omega
theorem rX_up (w : Nat → Nat) (j v : Nat) : qc_u2 (rX w) 36 j (some v) = rX (qc_u w j v) := by
  funext t i
  by_cases ht : t = 36
  · subst ht
    by_cases hi : i = j
    · subst hi; simp [qc_u2, qc_u, rX]
    · simp [qc_u2, qc_u, rX, hi]
  · simp [qc_u2, qc_u, rX, ht]
/-- System.arraycopy of ints -/
theorem qw_copy {F : qc_F} {cc : ByteArray} {own nm : String} {rF rC rS rL cells slots pc : Nat} {ls : List (Option Value)} {st : List Value} {I I1 : Nat → Nat → Int32} {J : Nat → Nat → Int64} {S : qc_Sh} {idx a b n1 n2 : Nat} {sp dp n : Int32} {sp1 dp1 m1 : Nat} (cx : qc_X F cc own nm rF rC rS rL) (hd : decode cc pc = .ok (.invokestatic idx, 3)) (w1 : Cond.methodLink own idx arraycopyName ∈ qc_GW) (w2 : Cond.native arraycopyName ∈ qc_GW) (w3 : Cond.static arraycopyName ∈ qc_GW) (w4 : Cond.initialized "java/lang/System" ∈ qc_GW)
    (ka : S.2.1 a = 8) (ta : a < S.2.2.2) (na : S.2.2.1 a = n1) (kb : S.2.1 b = 8) (tb : b < S.2.2.2) (nb : S.2.2.1 b = n2) (h1 : ¬ sp < 0 ∧ sp.toNatClampNeg = sp1) (h2 : ¬ dp < 0 ∧ dp.toNatClampNeg = dp1) (h3 : ¬ n < 0 ∧ n.toNatClampNeg = m1) (h4 : sp1 + m1 ≤ n1 ∧ dp1 + m1 ≤ n2) (hf : 1 ≤ rF ∧ 26 ≤ rL) (hst : (st.map fun v => v.category).sum ≤ 8) (e : I1 = qc_u I b (va_cpy (I a) (I b) sp1 dp1 m1))
    (k : qc_J F cells slots (pc + 3) ls st (I1, J, S)) : qc_J F cells slots pc ls (.int n :: .int dp :: .ref b :: .int sp :: .ref a :: st) (I, J, S) := by
  obtain ⟨p, l, e9, R, s, m, args, below, meth, c, nL, D, ca, A, n0, ad0, Q⟩ := F
  obtain ⟨hx, hb, hml, hown, hts, hlocks, hG, hroom, hnm⟩ := cx
  obtain ⟨h1, rfl⟩ := h1
  obtain ⟨h2, rfl⟩ := h2
  obtain ⟨h3, rfl⟩ := h3
  subst na; subst nb
  intro ad H locs la hw hS ha hl
  have ea : (qc_W ca ad (I, J, S))[a]? = some (ad a, .inl (ca 8, S.2.2.1 a, .inl (I a))) := (qc_W_at (h := (I, J, S)) ta).trans (by rw [qc_E_arr (h := (I, J, S)) ka (by omega)])
  have eb : (qc_W ca ad (I, J, S))[b]? = some (ad b, .inl (ca 8, S.2.2.1 b, .inl (I b))) := (qc_W_at (h := (I, J, S)) tb).trans (by rw [qc_E_arr (h := (I, J, S)) kb (by omega)])
  have he : (qc_W ca ad (I, J, S)).set b (ad b, .inl (ca 8, S.2.2.1 b, .inl (va_cpy (I a) (I b) sp.toNatClampNeg dp.toNatClampNeg n.toNatClampNeg))) = qc_W ca ad (I1, J, S) := by
    refine qc_W_set (h := (I, J, S)) (h' := (I1, J, S)) rfl tb ?_ (fun u hu => ?_)
    · rw [qc_E_arr (h := (I1, J, S)) kb (by omega), e]
      show Sum.inl (ca 8, S.2.2.1 b, Sum.inl (qc_u I b _ b)) = _
      rw [qc_u_s]
    · refine qc_E_cong ?_ rfl rfl rfl rfl
      show I1 u = I u
      rw [e, qc_u_n _ _ hu]
  refine va_copyi (ty := .int) hx hb (hml.trans hl.1.symm) hown (hts _ w1) (hts _ w2) (hts _ w3) (hts _ w4) hG.1 hw.1 hw.2 hS a b 0 0 ea eb rfl rfl rfl h1 h2 h3 h4.1 h4.2 (fun _ _ => rfl) (by omega) ?_ hd (fun H1 locs1 hP hD hS => ?_)
  · rw [qc_cats]
    have : nativeFrameWords "java/lang/System" "arraycopy" 5 = 7 := by decide
    omega
  · rw [he] at hP hD
    exact k ad H1 locs1 la ⟨hP, hD⟩ hS ha hl
/-- aastore of an image -/
theorem qw_aast {F : qc_F} {cc : ByteArray} {own nm : String} {rF rC rS rL cells slots pc : Nat} {ls : List (Option Value)} {st : List Value} {I : Nat → Nat → Int32} {J : Nat → Nat → Int64} {n v : Nat} {w w1 : Nat → Nat} {i : Int32} (cx : qc_X F cc own nm rF rC rS rL) (hd : decode cc pc = .ok (.aastore, 1)) (hn : 121 ≤ n) (hin : qc_in i 20) (hv : qc_im n v) (e : w1 = qc_u w i.toNatClampNeg v)
    (k : qc_J F cells slots (pc + 1) ls st (I, J, (rX w1, kX, nX, n))) : qc_J F cells slots pc ls (.ref v :: .int i :: .ref 36 :: st) (I, J, (rX w, kX, nX, n)) := by
  obtain ⟨p, l, e9, R, s, m, args, below, meth, c, nL, D, ca, A, n0, ad0, Q⟩ := F
  obtain ⟨hx, hb, hml, hown, hts, hlocks, hG, hroom, hnm⟩ := cx
  subst e
  intro ad H locs la hw hS ha hl
  have t36 : (36 : Nat) < qc_n (I, J, (rX w, kX, nX, n)) := Nat.lt_of_lt_of_le (by decide) hn
  have tv : v < qc_n (I, J, (rX w, kX, nX, n)) := qc_ltp0 hv.1
  have ea : (qc_W ca ad (I, J, (rX w, kX, nX, n)))[36]? = some (ad 36, .inl (ca 10, 20, .inr (.inr (.inr (.inr (fun j => (rX w 36 j).map ad)))))) := (qc_W_at t36).trans (by rw [qc_E_ref (h := (I, J, (rX w, kX, nX, n))) (k := 10) rfl (by omega)]; rfl)
  have ev := (qc_W_at (ca := ca) (ad := ad) tv).trans (by rw [qc_E_obj (h := (I, J, (rX w, kX, nX, n))) hv.2.1 (by decide)])
  have he : (qc_W ca ad (I, J, (rX w, kX, nX, n))).set 36 (ad 36, .inl (ca 10, 20, .inr (.inr (.inr (.inr (va_up (fun j => (rX w 36 j).map ad) i.toNatClampNeg (some (ad v)))))))) = qc_W ca ad (I, J, (rX (qc_u w i.toNatClampNeg v), kX, nX, n)) := by
    rw [← rX_up]
    exact qc_W_set (h := (I, J, (rX w, kX, nX, n))) (h' := qc_sR (I, J, (rX w, kX, nX, n)) 36 i.toNatClampNeg (some v)) rfl t36 (qc_sR_arr (h := (I, J, (rX w, kX, nX, n))) (k := 10) rfl (by omega)) qc_sR_ne
  refine va_astq (r := (RX1, TX1, 4)) hx hb hG.1 hw.1 hw.2 hS 36 2 v 1 ea rfl ev rfl hin hd (fun H1 locs1 hP hD hS => ?_)
  rw [he] at hP hD
  exact k ad H1 locs1 la ⟨hP, hD⟩ hS ha hl
