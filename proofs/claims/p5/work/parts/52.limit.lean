/-- limit() on both sides: the limit of both is at 0, 12 and 77, 9 -/
def RLi (c r : St) : Prop := r 77 9 = c 0 12 ∧ 0 ≤ c 0 12 ∧ c 0 12 ≤ 99
theorem r_limit {N : Nat} {c r : St} {a0 : Int} (h0 : r32 a0) (H : RLi c r) : ∃ c' r' v, d_x7_limit N c a0 = some (c', v) ∧ d_x8_limit N r a0 = some (r', v) ∧ RLi c' r' ∧ (∀ a k, ¬ (a = 0 ∧ k = 12) → c' a k = c a k) ∧ (∀ a k, ¬ (a = 77 ∧ k = 9) → r' a k = r a k) := by
  unfold d_x7_limit d_x8_limit
  rw [w32r h0, e_in32 N r h0 (by unfold r32; omega) (by unfold r32; omega), bI_some, wz, iz]
  by_cases hs : 0 ≤ a0 ∧ a0 ≤ 99
  · rw [if_neg (show ¬ a0 < 0 by omega), if_neg (show ¬ 99 < a0 by omega), if_pos hs]
    refine ⟨up c 0 12 a0, up r 77 9 a0, c 0 12, rfl, ?_, ?_, fun a k h => if_neg h, fun a k h => if_neg h⟩
    · show some (up r 77 9 a0, r 77 9) = _
      rw [H.1]
    · unfold RLi
      rw [up_same, up_same]
      omega
  · rw [if_neg hs]
    refine ⟨c, r, -2, ?_, rfl, H, fun _ _ _ => rfl, fun _ _ _ => rfl⟩
    by_cases h1 : a0 < 0
    · rw [if_pos h1]
    · rw [if_neg h1, if_pos (by omega)]
