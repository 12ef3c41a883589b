theorem bd_eq {α β : Type} (x : α) (f : α → β) : bd x f = f x := rfl
theorem e_miss {N : Nat} (c : St) {h : Nat} (hh : h < 4) (hr : r32 (c 52 h)) : d_x3_isMissing N c (h : Int) = some (c, if c 52 h = -1 then 1 else 0) := by
  unfold d_x3_isMissing
  rw [w32i (x := (h : Int)) (by omega) (by omega), if_pos (show 0 ≤ (h : Int) ∧ (h : Int) < ((4 : Nat) : Int) by omega), Int.toNat_natCast, w32r hr]
  split <;> rfl
theorem e_spans {N : Nat} (c : St) {h : Nat} {a1 a2 : Int} (hh : h < 4) (h1 : r32 a1) (h2 : r32 a2) (hs : 0 ≤ c 53 h ∧ c 53 h ≤ 40) : d_x3_spans N c (h : Int) a1 a2 = some (c, if 0 ≤ a1 ∧ 0 ≤ a2 ∧ a1 + a2 ≤ c 53 h then 1 else 0) := by
  unfold d_x3_spans
  rw [w32r h1, w32r h2, w32i (x := (h : Int)) (by omega) (by omega), Int.toNat_natCast, w32i (x := c 53 h) (by omega) (by omega)]
  unfold r32 at h1 h2
  by_cases g1 : a1 < 0
  · rw [if_pos g1, if_neg (by omega)]
  · rw [if_neg g1]
    by_cases g2 : a2 < 0
    · rw [if_pos g2, if_neg (by omega)]
    · rw [if_neg g2, if_pos (show 0 ≤ (h : Int) ∧ (h : Int) < ((4 : Nat) : Int) by omega)]
      by_cases g3 : c 53 h < a1
      · rw [if_pos g3, if_neg (by omega)]
      · rw [if_neg g3, if_pos (show 0 ≤ (h : Int) ∧ (h : Int) < ((4 : Nat) : Int) by omega), w32i (x := c 53 h - a1) (by omega) (by omega)]
        by_cases g4 : c 53 h - a1 < a2
        · rw [if_pos g4, if_neg (by omega)]
        · rw [if_neg g4, if_pos (by omega)]
/-- what is put into a sheet of a sort -/
def cut (q v : Int) : Int := if q = 1 then w32 v else if q = 2 then w32 (w8 v) else v
theorem e_write {N : Nat} (c : St) {h i : Nat} {v : Int} (hh : h < 4) (hi : i < 40) (hr : r32 (c 52 h)) : d_x3_write N c (h : Int) (i : Int) v = some (up c 54 (h * 40 + i) (cut (c 52 h) v), 0) := by
  unfold d_x3_write
  rw [w32i (x := (h : Int)) (by omega) (by omega), if_pos (show 0 ≤ (h : Int) ∧ (h : Int) < ((4 : Nat) : Int) by omega), Int.toNat_natCast, w32r hr]
  have e34 : ∀ x : Int, d_x3_write_34 N c (h : Int) (i : Int) x = some (up c 54 (h * 40 + i) x, 0) := fun x => by
    unfold d_x3_write_34
    rw [w32i (x := (h : Int) * 40 + i) (by omega) (by omega), if_pos (by omega), show ((h : Int) * 40 + i).toNat = h * 40 + i by omega]
    rfl
  have e18 : ∀ x : Int, d_x3_write_18 N c (h : Int) (i : Int) v x = some (up c 54 (h * 40 + i) (if c 52 h = 2 then w32 (w8 v) else x), 0) := fun x => by
    unfold d_x3_write_18
    rw [w32i (x := (h : Int)) (by omega) (by omega), if_pos (show 0 ≤ (h : Int) ∧ (h : Int) < ((4 : Nat) : Int) by omega), Int.toNat_natCast, w32r hr]
    by_cases g : c 52 h = 2
    · rw [if_pos g, if_pos g, bd_eq, e34]
    · rw [if_neg g, if_neg g, e34]
  unfold cut
  by_cases g : c 52 h = 1
  · rw [if_pos g, if_pos g, bd_eq, e18, if_neg (by omega)]
  · rw [if_neg g, if_neg g, e18]
theorem RSh.r52 {c r : St} (H : RSh c r) {h : Nat} (hh : h < 4) : r32 (c 52 h) := by
  unfold r32
  rcases H h hh with z | z <;> omega
theorem RSh.r126 {c r : St} (H : RSh c r) {h : Nat} (hh : h < 4) : r 126 h = if c 52 h = -1 then 0 else 1 := by
  rcases H h hh with z | z
  · rw [if_pos z.1, z.2]
  · rw [if_neg (by omega), z.2.1]
/-- put() on both sides -/
theorem r_put {N : Nat} {c r : St} {a0 a1 a2 : Int} (h0 : r32 a0) (h1 : r32 a1) (H : RSh c r) : ∃ c' r' v, d_x7_put N c a0 a1 a2 = some (c', v) ∧ d_x8_put N r a0 a1 a2 = some (r', v) ∧ RSh c' r' ∧ Fr cSh c c' ∧ Fr mSh r r' := by
  unfold d_x7_put d_x8_put
  rw [e_isSheet7 N c h0, e_isSheet8 N r h0, bI_some, bI_some, wz, iz, iz]
  by_cases hs : 0 ≤ a0 ∧ a0 < 4
  · rw [if_pos hs, if_pos hs]
    obtain ⟨h, rfl⟩ : ∃ h : Nat, a0 = h := ⟨a0.toNat, by omega⟩
    have hh : h < 4 := by omega
    have g4 : 0 ≤ (h : Int) ∧ (h : Int) < ((4 : Nat) : Int) := by omega
    rw [e_miss c hh (H.r52 hh), bI_some, wz, iz, w32i (x := (h : Int)) (by omega) (by omega), if_pos g4, Int.toNat_natCast, H.r126 hh]
    by_cases hm : c 52 h = -1
    · rw [if_pos hm, if_pos hm, w32_0, if_pos rfl]
      exact ⟨c, r, -11, rfl, rfl, H, Fr.refl, Fr.refl⟩
    · rcases H h hh with z | ⟨z1, z2, z3, z4, z5, z6, z7⟩
      · exact absurd z.1 hm
      · rw [if_neg hm, if_neg hm, w32_1, if_neg (show ¬ (1 : Int) = 0 by decide), if_pos g4, e_spans c hh h1 (by unfold r32; omega) ⟨z5, z6⟩, bI_some, wz, iz, z4, w32i (x := c 53 h - 1) (by omega) (by omega), w32r h1, e_in32 N r h1 (by unfold r32; omega) (by unfold r32; omega), bI_some, wz, iz]
        by_cases hi : 0 ≤ a1 ∧ a1 < c 53 h
        · rw [if_pos (show 0 ≤ a1 ∧ 0 ≤ (1 : Int) ∧ a1 + 1 ≤ c 53 h by omega), if_pos (show 0 ≤ a1 ∧ a1 ≤ c 53 h - 1 by omega)]
          obtain ⟨i, rfl⟩ : ∃ i : Nat, a1 = i := ⟨a1.toNat, by omega⟩
          rw [e_write c hh (by omega) (H.r52 hh), if_pos g4, if_pos g4, z3, w32r (H.r52 hh)]
          have e86 : ∀ x : Int, d_x8_put_86 N r x (40 * (h : Int) + i) = some (up r 129 (h * 40 + i) x, 1) := fun x => by
            unfold d_x8_put_86
            rw [w32i (x := 40 * (h : Int) + i) (by omega) (by omega), if_pos (by omega), show (40 * (h : Int) + i).toNat = h * 40 + i by omega]
            rfl
          rw [e86, e86, e86]
          refine ⟨_, up r 129 (h * 40 + i) (cut (c 52 h) a2), 1, rfl, ?_, ?_, Fr.up (by unfold cSh; omega), Fr.up (by unfold mSh; omega)⟩
          · unfold cut
            rcases z1 with z1 | z1 | z1 <;> rw [z1] <;> rfl
          · intro k hk
            rcases H k hk with y | ⟨y1, y2, y3, y4, y5, y6, y7⟩
            · left; simpa [up_app] using y
            · right
              refine ⟨by simpa [up_app] using y1, by simpa [up_app] using y2, by simpa [up_app] using y3, by simpa [up_app] using y4, by simpa [up_app] using y5, by simpa [up_app] using y6, ?_⟩
              intro j hj
              have hj : (j : Int) < c 53 k := by simpa [up_app] using hj
              have := y7 j hj
              simp only [up_app]
              by_cases e : k * 40 + j = h * 40 + i
              · simp [e]
              · simpa [e] using this
        · rw [if_neg (show ¬ (0 ≤ a1 ∧ 0 ≤ (1 : Int) ∧ a1 + 1 ≤ c 53 h) by omega), if_neg (show ¬ (0 ≤ a1 ∧ a1 ≤ c 53 h - 1) by omega)]
          exact ⟨c, r, -12, rfl, rfl, H, Fr.refl, Fr.refl⟩
  · rw [if_neg hs, if_neg hs]
    exact ⟨c, r, -2, rfl, rfl, H, Fr.refl, Fr.refl⟩
