def QL1 (x : Nat) (c r : St) (b : Nat → Int) (z n j : Nat) (c' r' : St) (_ _ : Int) : Prop := ∃ j', j ≤ j' ∧ RD c' r' b z n j' ∧ FC2 x c c' ∧ FM2 x r r' ∧ ((gd c' r' b z j' ∧ ∃ k : Nat, 1 ≤ k ∧ k ≤ 8 ∧ c' 9 x = k ∧ r' 100 x = k ∧ ENT x k c' r' ∧ j + 2 * k ≤ j' + 1) ∨ bad c' r')
/-- both read a list -/
theorem r_list {N : Nat} (hN : 500 ≤ N) {b : Nat → Int} {z n x j : Nat} (hx : x < 24) {c r : St} (H : RD c r b z n j) (G : gd c r b z j) : Rd (d_x2_readNums N c (x : Int)) (d_x8_list N r (x : Int)) (QL1 x c r b z n j) := by
  obtain ⟨m, hm⟩ : ∃ m, N = m + 1 := ⟨N - 1, by omega⟩
  obtain ⟨c2, r2, v2, w2, f1, f2, j2, f3, f4, f5, f6, f7⟩ := r_num hN H G
  have gx : 0 ≤ (x : Int) ∧ (x : Int) < ((24 : Nat) : Int) := by omega
  have l : d_x2_readNums N c (x : Int) = CL N m x 1 (up c2 10 (8 * x + 0) (w32 v2)) := by
    unfold d_x2_readNums
    have u : d_x2_readNums_4L N N c (x : Int) 0 1 = d_x2_readNums_4 N (d_x2_readNums_4L N m) c (x : Int) 0 1 := by
      conv => lhs; arg 2; rw [hm]
      rfl
    rw [u]
    unfold d_x2_readNums_4 CL
    rw [w32_1, if_neg (by decide), w32_0, if_pos (by decide), G.1, if_pos (by decide), f1, bI_some, w32i (x := (x : Int) * 8 + 0) (by omega) (by omega), if_pos (by omega), bd_eq, show ((x : Int) * 8 + 0).toNat = 8 * x + 0 by omega, bd_eq]
    rfl
  have lm : d_x8_list N r (x : Int) = d_x8_list_20L N N (up (up r2 101 (8 * x + 0) w2) 100 x 1) (x : Int) := by
    unfold d_x8_list
    rw [f2, bI_some, w32i (x := 8 * (x : Int)) (by omega) (by omega), if_pos (by omega), bd_eq, w32i (x := (x : Int)) (by omega) (by omega), if_pos gx, bd_eq, Int.toNat_natCast, show (8 * (x : Int)).toNat = 8 * x + 0 by omega]
  rw [l, lm]
  have H3 : RD (up c2 10 (8 * x + 0) (w32 v2)) (up (up r2 101 (8 * x + 0) w2) 100 x 1) b z n j2 := f4.cong (fun a k h => up_ne (by omega)) (fun y k h => by rw [up_ne (by omega), up_ne (by omega)])
  have FCt : FC2 x c (up c2 10 (8 * x + 0) (w32 v2)) := FC2.trans f5.w (fun a q p1 p2 p3 => up_o (by omega))
  have FMt : FM2 x r (up (up r2 101 (8 * x + 0) w2) 100 x 1) := FM2.trans f6.w (fun y q p1 p2 p3 => by rw [up_o (by omega), up_o (by omega)])
  rcases f7 with f7 | f7
  · have G3 : gd (up c2 10 (8 * x + 0) (w32 v2)) (up (up r2 101 (8 * x + 0) w2) 100 x 1) b z j2 := f7.1.cong (fun k => up_ne (by decide)) (fun k => by rw [up_ne (by decide), up_ne (by decide)])
    have rv := f7.2.2.2
    have E3 : ENT x 1 (up c2 10 (8 * x + 0) (w32 v2)) (up (up r2 101 (8 * x + 0) w2) 100 x 1) := by
      intro i hi
      have : i = 0 := by omega
      subst this
      rw [up_ne (show (101 : Nat) ≠ 100 by decide), up_same, up_same, w32i (x := v2) (by omega) (by omega), f7.2.2.1]
      exact ⟨rfl, rv.1, rv.2⟩
    obtain ⟨c4, r4, v4, w4, h1, h2, j4, h3, h4, h5, h6, h7⟩ := CL_all hN hx 7 1 m N _ _ j2 (by omega) (by omega) (by omega) (by omega) H3 G3 up_same E3
    refine ⟨c4, r4, v4, w4, h1, h2, j4, by omega, h4, FCt.trans h5, FMt.trans h6, ?_⟩
    rcases h7 with ⟨g1, k', g2, g3, g4, g5, g6, g7⟩ | h7
    · exact Or.inl ⟨g1, k', g2, g3, g4, g5, g6, by have := f7.2.1; omega⟩
    · exact Or.inr h7
  · have B3 : bad (up c2 10 (8 * x + 0) (w32 v2)) (up (up r2 101 (8 * x + 0) w2) 100 x 1) := f7.cong (fun k => up_ne (by decide)) (fun k => by rw [up_ne (by decide), up_ne (by decide)])
    obtain ⟨c4, j4, h1, h2, h3, h4, h5⟩ := CL_bad (N := N) (m := m) (k := 1) (by omega) hx (by omega) H3 B3
    exact ⟨c4, _, 0, 0, h1, list_bad (by omega) B3, j4, by omega, h3, FCt.trans h5, FMt, Or.inr h4⟩
