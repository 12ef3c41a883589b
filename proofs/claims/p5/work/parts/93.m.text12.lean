theorem list_bad {N m x : Nat} (hm : 1 ≤ m) {c r : St} (B : bad c r) : d_x8_list_20L N m r (x : Int) = some (r, 0) := by
  obtain ⟨m, rfl⟩ : ∃ m', m = m' + 1 := ⟨m - 1, by omega⟩
  show d_x8_list_20 N (d_x8_list_20L N m) r (x : Int) = _
  unfold d_x8_list_20
  rw [m_sgb0 B, bI_some, if_pos w32_0]
/-- a list goes on, on both sides -/
theorem CL_all {N : Nat} (hN : 500 ≤ N) {b : Nat → Int} {z n x : Nat} (hx : x < 24) : ∀ (f k m m' : Nat) (c r : St) (j : Nat), k + f = 8 → 1 ≤ k → f + 3 ≤ m → f + 3 ≤ m' → RD c r b z n j → gd c r b z j → r 100 x = k → ENT x k c r → Rd (CL N m x k c) (d_x8_list_20L N m' r (x : Int)) (QL x c r b z n j k) := by
  intro f
  induction f with
  | zero =>
    intro k m m' c r j hk hk1 hm hm' H G h100 E
    obtain ⟨m, rfl⟩ : ∃ mm, m = mm + 1 := ⟨m - 1, by omega⟩
    obtain ⟨m', rfl⟩ : ∃ mm, m' = mm + 1 := ⟨m' - 1, by omega⟩
    have hxw : w32 (x : Int) = x := w32i (by omega) (by omega)
    unfold CL
    show Rd _ (d_x8_list_20 N (d_x8_list_20L N m') r (x : Int)) _
    unfold d_x8_list_20
    rw [e_sgn H (by unfold r32; omega), m_sgn H G (by unfold r32; omega), bI_some, bI_some]
    by_cases q : c 13 j = 3 ∧ c 14 j = 44
    · obtain ⟨c', r', v, w, e1, e2, e3, e4, e5, e6, _⟩ := e_74m (N := N) (k := k) hx H (Or.inl G)
      have l : d_x2_readNums_4L N (m + 1) c (x : Int) (k : Int) 1 = some (c', 0) := by
        show d_x2_readNums_4 N (d_x2_readNums_4L N m) c (x : Int) (k : Int) 1 = _
        unfold d_x2_readNums_4
        rw [w32_1, if_neg (by decide), w32i (x := (k : Int)) (by omega) (by omega), if_neg (by omega), e1]
      rw [if_pos q, w32_1, if_neg (show ¬ (1 : Int) = 0 by decide), w32i (x := (k : Int)) (by omega) (by omega), if_neg (show ¬ (k : Int) < 8 by omega), l, if_neg (show ¬ (1 : Int) = 0 by decide), G.2.1, if_pos w32_0, hxw, if_pos (show 0 ≤ (x : Int) ∧ (x : Int) < ((24 : Nat) : Int) by omega), Int.toNat_natCast, h100, w32i (x := (k : Int)) (by omega) (by omega), if_pos (show (k : Int) = 8 by omega), e2, bV_some, list_bad (by omega) e4]
      exact ⟨_, _, _, _, rfl, rfl, j, Nat.le_refl _, e3, e5, e6.w, Or.inr e4⟩
    · have l : d_x2_readNums_4L N (m + 1) c (x : Int) (k : Int) 0 = some (up c 9 x (k : Int), 0) := by
        show d_x2_readNums_4 N (d_x2_readNums_4L N m) c (x : Int) (k : Int) 0 = _
        unfold d_x2_readNums_4
        rw [if_pos w32_0, e_74 hx]
      rw [if_neg q, if_pos w32_0, if_pos w32_0, l]
      exact ⟨_, _, _, _, rfl, rfl, j, Nat.le_refl _, H.cong (fun a k h => up_ne (by omega)) (fun _ _ _ => rfl), fun a q p1 p2 p3 => up_o (by omega), fun _ _ _ _ _ => rfl, Or.inl ⟨G.cong (fun k => up_ne (by decide)) (fun _ => rfl), k, Nat.le_refl _, by omega, up_same, h100, fun i hi => by rw [up_ne (by decide)]; exact E i hi, Nat.le_refl _⟩⟩
  | succ f ih =>
    intro k m m' c r j hk hk1 hm hm' H G h100 E
    obtain ⟨m, rfl⟩ : ∃ mm, m = mm + 1 := ⟨m - 1, by omega⟩
    obtain ⟨m', rfl⟩ : ∃ mm, m' = mm + 1 := ⟨m' - 1, by omega⟩
    have hxw : w32 (x : Int) = x := w32i (by omega) (by omega)
    have gx : 0 ≤ (x : Int) ∧ (x : Int) < ((24 : Nat) : Int) := by omega
    have hkw : w32 (k : Int) = k := w32i (by omega) (by omega)
    have S := H.sort G
    have hj := H.2.2.1
    unfold CL
    show Rd _ (d_x8_list_20 N (d_x8_list_20L N m') r (x : Int)) _
    unfold d_x8_list_20
    rw [e_sgn H (by unfold r32; omega), m_sgn H G (by unfold r32; omega), bI_some, bI_some]
    by_cases q : c 13 j = 3 ∧ c 14 j = 44
    · obtain ⟨r1, v1, e1, e2, e3, e4⟩ := H.adv hN G (by omega) (by omega)
      obtain ⟨c2, r2, v2, w2, f1, f2, j2, f3, f4, f5, f6, f7⟩ := r_num hN e2 e3
      have g100 : r1 100 x = k := (e4 100 x (by omega)).trans h100
      have i8 : ((x : Int) * 8 + (k : Int)).toNat = 8 * x + k := by omega
      have i8' : (8 * (x : Int) + (k : Int)).toNat = 8 * x + k := by omega
      have l : d_x2_readNums_4L N (m + 1) (up c 1 6 ((j : Int) + 1)) (x : Int) (k : Int) 1 = CL N m x (k + 1) (up c2 10 (8 * x + k) (w32 v2)) := by
        show d_x2_readNums_4 N (d_x2_readNums_4L N m) (up c 1 6 ((j : Int) + 1)) (x : Int) (k : Int) 1 = _
        unfold d_x2_readNums_4 CL
        rw [w32_1, if_neg (by decide), hkw, if_pos (by omega), e3.1, if_pos (by decide), f1, bI_some, w32i (x := (x : Int) * 8 + (k : Int)) (by omega) (by omega), if_pos (by omega), bd_eq, i8, bd_eq]
        rfl
      have fr : r2 100 x = k := (f6 100 x (by omega)).trans g100
      rw [if_pos q, w32_1, if_neg (show ¬ (1 : Int) = 0 by decide), hkw, if_pos (show (k : Int) < 8 by omega), bd_eq, hj, l, if_neg (show ¬ (1 : Int) = 0 by decide), G.2.1, if_pos w32_0, hxw, if_pos gx, Int.toNat_natCast, h100, hkw, if_neg (show ¬ (k : Int) = 8 by omega), e1, bV_some, if_pos gx, f2, bI_some, g100, w32i (x := 8 * (x : Int) + (k : Int)) (by omega) (by omega), if_pos (by omega), bd_eq, if_pos gx, if_pos gx, bd_eq, i8', up_ne (show (100 : Nat) ≠ 101 by decide), fr]
      have H3 : RD (up c2 10 (8 * x + k) (w32 v2)) (up (up r2 101 (8 * x + k) w2) 100 x ((k : Int) + 1)) b z n j2 := f4.cong (fun a k h => up_ne (by omega)) (fun y k h => by rw [up_ne (by omega), up_ne (by omega)])
      have FCt : FC2 x c (up c2 10 (8 * x + k) (w32 v2)) := FC2.trans (FC2.trans (fun a q p1 p2 p3 => up_o (by omega)) f5.w) (fun a q p1 p2 p3 => up_o (by omega))
      have FMt : FM2 x r (up (up r2 101 (8 * x + k) w2) 100 x ((k : Int) + 1)) := FM2.trans (FM2.trans e4.fm.w f6.w) (fun y q p1 p2 p3 => by rw [up_o (by omega), up_o (by omega)])
      rcases f7 with f7 | f7
      · have G3 : gd (up c2 10 (8 * x + k) (w32 v2)) (up (up r2 101 (8 * x + k) w2) 100 x ((k : Int) + 1)) b z j2 := f7.1.cong (fun k => up_ne (by decide)) (fun k => by rw [up_ne (by decide), up_ne (by decide)])
        have rv := f7.2.2.2
        have E3 : ENT x (k + 1) (up c2 10 (8 * x + k) (w32 v2)) (up (up r2 101 (8 * x + k) w2) 100 x ((k : Int) + 1)) := by
          intro i hi
          rw [up_ne (show (101 : Nat) ≠ 100 by decide)]
          by_cases y : i = k
          · subst y
            rw [up_same, up_same, w32i (x := v2) (by omega) (by omega), f7.2.2.1]
            exact ⟨rfl, rv.1, rv.2⟩
          · rw [up_nj (by omega), up_nj (by omega), f5 10 _ (by omega), up_ne (by decide), f6 101 _ (by omega), e4 101 _ (by omega)]
            exact E i (by omega)
        obtain ⟨c4, r4, v4, w4, h1, h2, j4, h3, h4, h5, h6, h7⟩ := ih (k + 1) m m' _ _ j2 (by omega) (by omega) (by omega) (by omega) H3 G3 (by rw [up_same]; omega) E3
        refine ⟨c4, r4, v4, w4, h1, h2, j4, by have := f7.2.1; omega, h4, FCt.trans h5, FMt.trans h6, ?_⟩
        rcases h7 with ⟨g1, k', g2, g3, g4, g5, g6, g7⟩ | h7
        · exact Or.inl ⟨g1, k', by omega, g3, g4, g5, g6, by have := f7.2.1; omega⟩
        · exact Or.inr h7
      · have B3 : bad (up c2 10 (8 * x + k) (w32 v2)) (up (up r2 101 (8 * x + k) w2) 100 x ((k : Int) + 1)) := f7.cong (fun k => up_ne (by decide)) (fun k => by rw [up_ne (by decide), up_ne (by decide)])
        obtain ⟨c4, j4, h1, h2, h3, h4, h5⟩ := CL_bad (N := N) (m := m) (k := k + 1) (by omega) hx (by omega) H3 B3
        exact ⟨c4, _, 0, 0, h1, list_bad (by omega) B3, j4, by omega, h3, FCt.trans h5, FMt, Or.inr h4⟩
    · have l : d_x2_readNums_4L N (m + 1) c (x : Int) (k : Int) 0 = some (up c 9 x (k : Int), 0) := by
        show d_x2_readNums_4 N (d_x2_readNums_4L N m) c (x : Int) (k : Int) 0 = _
        unfold d_x2_readNums_4
        rw [if_pos w32_0, e_74 hx]
      rw [if_neg q, if_pos w32_0, if_pos w32_0, l]
      exact ⟨_, _, _, _, rfl, rfl, j, Nat.le_refl _, H.cong (fun a k h => up_ne (by omega)) (fun _ _ _ => rfl), fun a q p1 p2 p3 => up_o (by omega), fun _ _ _ _ _ => rfl, Or.inl ⟨G.cong (fun k => up_ne (by decide)) (fun _ => rfl), k, Nat.le_refl _, by omega, up_same, h100, fun i hi => by rw [up_ne (by decide)]; exact E i hi, Nat.le_refl _⟩⟩
