/-! WHAT IS LEFT: a relation over the two pools that holds at the start and is kept by every call, with equal answers -/
def Pure (Rel : (Nat → Nat → Int32) → (Nat → Nat → Int64) → (Nat → Nat) → (Nat → Nat → Int32) → Prop) : Prop :=
  (∀ I J w M, Rel I J w M → ∀ j, 12 ≤ w j ∧ w j < 121) ∧ St Rel ∧ ∃ I1 I2 I3 : Nat → Nat → Int32, P_X7_freshText iM0 = some I1 ∧ P_X7_takeText I1 = some I2 ∧ P_X7_begins I2 = some I3 ∧ Rel iX0 (fun _ _ => 0) w0X I3
theorem lw_whole {Rel : (Nat → Nat → Int32) → (Nat → Nat → Int64) → (Nat → Nat) → (Nat → Nat → Int32) → Prop} (hp : Pure Rel) {p : Program} {e : Env} {s : State} {m : MethodId} {below : List Frame} {meth : Method} {c : Code} (l : Launch) (hflags : l.flags = flags0) {b L : Nat} {xs : Nat → Int32} (hL : L ≤ 3072) (C0 : lw_At p s m meth c b L xs) : W p l e room_1 s m #[Value.ref b] below meth c s.heap [] 0 0 (lw_Z below #[Value.ref b] s) (entryFrame m ([Value.ref b] : List Value).toArray 7) := by
  obtain ⟨D, ca, ad0, C⟩ := lw_ctx C0
  obtain ⟨hRw, st, I1, I2, I3, h1, h2, h3, hR⟩ := hp
  exact lw_begin C hL (lw_off hflags) hRw st h1 h2 h3 hR
