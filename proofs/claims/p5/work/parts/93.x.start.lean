theorem s0_tz (t : Nat) (h : t = 26 ∨ t = 38 ∨ t = 65) : TZ t s0 ∧ KB t s0 := by
  have one : ∀ p : Nat, p < 192 → (if p < 192 then (1 : Int) else 0) = 1 := fun p hp => if_pos hp
  rcases h with e | e | e <;> subst e
  · exact ⟨⟨rfl, fun p hp => ⟨rfl, rfl, one p hp, rfl, rfl, rfl, rfl, fun i _ => rfl⟩⟩, fun k _ => ⟨show (-128 : Int) ≤ 0 by decide, show (0 : Int) ≤ 127 by decide⟩⟩
  · exact ⟨⟨rfl, fun p hp => ⟨rfl, rfl, one p hp, rfl, rfl, rfl, rfl, fun i _ => rfl⟩⟩, fun k _ => ⟨show (-128 : Int) ≤ 0 by decide, show (0 : Int) ≤ 127 by decide⟩⟩
  · exact ⟨⟨rfl, fun p hp => ⟨rfl, rfl, one p hp, rfl, rfl, rfl, rfl, fun i _ => rfl⟩⟩, fun k _ => ⟨show (-128 : Int) ≤ 0 by decide, show (0 : Int) ≤ 127 by decide⟩⟩
theorem s0_tx (a k : Nat) : tx s0 s0 a k = 0 := by
  unfold tx
  split
  · rename_i h
    have : a = 18 ∨ a = 19 ∨ a = 20 ∨ a = 21 ∨ a = 22 ∨ a = 23 ∨ a = 24 ∨ a = 25 := by omega
    rcases this with e | e | e | e | e | e | e | e <;> subst e <;> rfl
  · split
    · rename_i h
      have : a = 78 ∨ a = 79 ∨ a = 80 ∨ a = 81 ∨ a = 82 ∨ a = 83 ∨ a = 84 ∨ a = 85 := by omega
      rcases this with e | e | e | e | e | e | e | e <;> subst e <;> rfl
    · rfl
/-- class and model stand alike at the start -/
theorem s0_rg : RG s0 s0 := by
  have z := s0_tz 26 (by omega)
  have Z : MZ s0 := by
    refine ⟨?_, ?_⟩
    · intro p hp
      exact ⟨rfl, rfl, rfl, rfl, rfl⟩
    · intro k hk
      rfl
  have ts := z.1.ts (T := tx s0 s0) Z z.2
  have X : XT (tx s0 s0) := by
    refine ⟨⟨fun s hs => ?_, fun p hp => ?_⟩, fun s hs => ?_⟩
    · rw [s0_tx, s0_tx]
      decide
    · have := hp.2
      rw [s0_tx] at this
      omega
    · refine Or.inl ⟨?_, fun k hk => ?_⟩
      · rw [s0_tx]
        exact (by decide : (0 : Int) ≤ 120)
      · rw [s0_tx] at hk
        omega
  refine ⟨⟨rfl, by decide, by decide, fun i hi => ?_⟩, ⟨X, ts.1, ts.2, fun p hp => ⟨rfl, fun i _ => (show ¬ (0 : Int) = 2 by decide)⟩⟩, ⟨(s0_tz 38 (by omega)).1.ut (s0_tz 38 (by omega)).2, (s0_tz 65 (by omega)).1.ut (s0_tz 65 (by omega)).2⟩, ⟨rfl, Or.inl rfl⟩, fun h hh => Or.inl ⟨if_pos hh, rfl⟩, ⟨rfl, by decide, by decide⟩, ⟨rfl, by decide, by decide⟩⟩
  exact absurd hi (by show ¬ (i : Int) < 0; omega)
