/-! CANDIDATES: of what sort, of whom, in their order -/
def wp {α : Type} (o : Option α) (Q : α → Prop) : Prop := ∃ a, o = some a ∧ Q a
theorem wp_some {α : Type} {a : α} {Q : α → Prop} (h : Q a) : wp (some a) Q := ⟨a, rfl, h⟩
theorem wp_bind {α β : Type} {o : Option α} {f : α → Option β} {P : α → Prop} {Q : β → Prop} (h : wp o P) (k : ∀ a, P a → wp (f a) Q) : wp (o.bind f) Q := by
  obtain ⟨a, e, h⟩ := h
  rw [e]
  exact k a h
theorem wp_mono {α : Type} {o : Option α} {P Q : α → Prop} (h : wp o P) (k : ∀ a, P a → Q a) : wp o Q := by
  obtain ⟨a, e, h⟩ := h
  exact ⟨a, e, k a h⟩
/-- those from a number on for which something is -/
def cf (f : Nat → Bool) : Nat → Nat → List Nat
  | 0, _ => []
  | d + 1, a => if f a = true then a :: cf f d (a + 1) else cf f d (a + 1)
theorem cf_mem {f : Nat → Bool} : ∀ d a x, x ∈ cf f d a → a ≤ x ∧ x < a + d ∧ f x = true := by
  intro d
  induction d with
  | zero => intro a x h; cases h
  | succ d ih =>
    intro a x h
    unfold cf at h
    split at h
    · rename_i e
      rcases List.mem_cons.1 h with rfl | h
      · exact ⟨by omega, by omega, e⟩
      · have := ih (a + 1) x h
        exact ⟨by omega, by omega, this.2.2⟩
    · have := ih (a + 1) x h
      exact ⟨by omega, by omega, this.2.2⟩
theorem cf_in {f : Nat → Bool} : ∀ d a x, a ≤ x → x < a + d → f x = true → x ∈ cf f d a := by
  intro d
  induction d with
  | zero => intro a x h1 h2; omega
  | succ d ih =>
    intro a x h1 h2 h3
    unfold cf
    by_cases e : x = a
    · subst e
      rw [if_pos h3]
      exact List.mem_cons_self
    · have := ih (a + 1) x (by omega) (by omega) h3
      split
      · exact List.mem_cons_of_mem _ this
      · exact this
theorem cf_sorted {f : Nat → Bool} : ∀ d a, (cf f d a).Pairwise (· < ·) := by
  intro d
  induction d with
  | zero => intro a; exact List.Pairwise.nil
  | succ d ih =>
    intro a
    unfold cf
    split
    · refine List.Pairwise.cons ?_ (ih (a + 1))
      intro x hx
      have := cf_mem d (a + 1) x hx
      omega
    · exact ih (a + 1)
theorem cf_len {f : Nat → Bool} : ∀ d a, (cf f d a).length = sm (fun u => b1 (f u)) d a := by
  intro d
  induction d with
  | zero => intro a; rfl
  | succ d ih =>
    intro a
    unfold cf sm b1
    split
    · rw [List.length_cons, ih]
      unfold b1
      omega
    · rw [ih]
      unfold b1
      omega
abbrev Qd : Type := Nat × Nat × Nat × Int
def thereS (V : sV) (s u : Nat) : Bool := decide ((v_st V u).val = s ∧ 0 < (v_ch V u).val)
def crew (V : sV) (s : Nat) : List Nat := cf (thereS V s) (v_us V).val 0
def ordS (k : Nat) : Prop := k = 0 ∨ k = 3
def triS (k : Nat) : Prop := k = 3 ∨ k = 5
def cand3 (R : List Nat) (k a b : Nat) : List Qd := if k = 3 ∨ k = 5 then (R.filter (fun c => decide (c ≠ a ∧ c ≠ b))).map (fun c : Nat => (k, a, b, (c : Int))) else [(k, a, b, -2)]
def cand2 (L R : List Nat) (k a : Nat) : List Qd := R.flatMap (fun b => if a ≠ b ∧ ¬ ((k = 0 ∨ k = 3) ∧ b < a) then cand3 L k a b else [])
def cand1 (L R : List Nat) (k : Nat) : List Qd := R.flatMap (fun a => cand2 L L k a)
/-- which sorts are wanted -/
def wantS (V : sV) (k : Nat) : Bool := decide (((v_od V).val >>> (k / 2)) % 2 = 1)
def cand0 (V : sV) (s k : Nat) : List Qd := if wantS V k = true then cand1 (crew V s) (crew V s) k else []
/-- from a site and a sort on -/
def candK (V : sV) (s : Nat) : Nat → Nat → List Qd
  | 0, _ => []
  | d + 1, k => cand0 V s k ++ candK V s d (k + 1)
def candT (V : sV) : Nat → Nat → List Qd
  | 0, _ => []
  | d + 1, s => candK V s 6 0 ++ candT V d (s + 1)
/-! what is so of a candidate -/
def tA (k : Nat) : Int := if k = 2 ∨ k = 5 then 2 else if k = 4 then 3 else 1
def tB (k : Nat) : Int := if k = 0 ∨ k = 3 ∨ k = 5 then 1 else if k = 4 then -2 else -1
def tC (k : Nat) : Int := if k = 3 then -1 else if k = 5 then -2 else 0
def wB (k : Nat) : Int := if k = 4 then 2 else 1
def wC (k : Nat) : Int := if k = 3 then 1 else if k = 5 then 2 else 0
def chanS (V : sV) (q : Qd) : Int := tA q.1 * (v_ch V q.2.1).val + tB q.1 * (v_ch V q.2.2.1).val + if q.2.2.2 < 0 then 0 else tC q.1 * (v_ch V q.2.2.2.toNat).val
def levS (V : sV) (q : Qd) : Int := tA q.1 * (v_pw V q.2.1).val + wB q.1 * (v_pw V q.2.2.1).val + (if q.2.2.2 < 0 then 0 else wC q.1 * (v_pw V q.2.2.2.toNat).val) - (v_ls V (q.1 / 2)).val
def comS (V : sV) (q : Qd) : Nat := ((v_sl V q.2.1).val &&& (v_sl V q.2.2.1).val) &&& (if q.2.2.2 < 0 then 255 else (v_sl V q.2.2.2.toNat).val)
def isP (V : sV) (q : Qd) : Bool := decide (1 ≤ chanS V q ∧ chanS V q ≤ (v_bd V).val ∧ comS V q ≠ 0)
/-- whether it may hit one, and whether it does -/
def mayS (V : sV) (q : Qd) (u : Nat) : Bool := decide (0 ≤ levS V q ∧ 0 < (v_ch V u).val ∧ q.2.1 ≠ u ∧ q.2.2.1 ≠ u ∧ q.2.2.2 ≠ (u : Int) ∧ comS V q &&& (v_sl V u).val ≠ 0 ∧ ((v_st V u).val = (v_st V q.2.1).val ∨ ((v_lk V (3 * (v_st V q.2.1).val + (v_st V u).val)).val ≠ 100 ∧ ((v_lk V (3 * (v_st V q.2.1).val + (v_st V u).val)).val : Int) ≤ levS V q)))
def hitS (V : sV) (q : Qd) (u : Nat) : Bool := mayS V q u && decide ((((v_ch V u).val : Int) - chanS V q).natAbs ≤ (v_gd V).val)
/-- the products, of candidates -/
def prdS (V : sV) (L : List Qd) : List Qd := L.filter (isP V)
def prods (V : sV) : List Qd := prdS V (candT V 3 0)
/-- a good candidate: its numbers are users, sort and signs go together -/
def gdQ (us : Nat) (q : Qd) : Prop := q.1 < 6 ∧ q.2.1 < us ∧ q.2.2.1 < us ∧ (((q.1 = 3 ∨ q.1 = 5) ∧ 0 ≤ q.2.2.2 ∧ q.2.2.2 < us) ∨ (¬ (q.1 = 3 ∨ q.1 = 5) ∧ q.2.2.2 = -2))
