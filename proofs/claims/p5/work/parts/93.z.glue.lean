/-- the whole, out of text's relation -/
theorem start_of (ht : TextR 20000) {p : Program} {e : Env} {s : State} {m : MethodId} {below : List Frame} {meth : Method} {c : Code} (l : Launch) {b L : Nat} {xs : Nat → Int32} (hL : L ≤ 3072) (C0 : lw_At p s m meth c b L xs) : W p l e room_1 s m #[Value.ref b] below meth c s.heap [] 0 0 (lw_Z below #[Value.ref b] s) (entryFrame m ([Value.ref b] : List Value).toArray 4) := by
  obtain ⟨R, h1, h2⟩ := law_all (N := 20000) (L := L) (xs := xs) (by decide) ht hL 3073 4000 s0 0 (by decide) (by decide) (by omega) (by decide) s0_rg
  exact whole_of l C0 ⟨20000, 4000, R, h1, h2⟩
