/-- sum: what it answers isn't looked at here -/
theorem L_sum {t N : Nat} {T : St} (h2 : T2 t) (hN : 100 ≤ N) {s : Nat} (hs : s < 8) (hne : T 18 s ≠ 0) {n : Int} (hn : 0 ≤ n ∧ n ≤ 64) (c0 r0 : St) : ∀ (k m : Nat) (c r : St) (j x y w : Int), (k : Int) + j = n → 0 ≤ j → k + 1 < m → An w → TI t T c r → Mo t 192 c0 c → Fm r0 r →
    ∃ c' r' v x' w', d_x4_addUp_8L N t m c (s : Int) n x w j = some (c', v) ∧ d_x8_sum_40L N m r (s : Int) n y w j = d_x8_sum_84 N r' x' w' ∧ TI t T c' r' ∧ Mo t 192 c0 c' ∧ Fm r0 r' ∧ An v ∧ An w' := by
  have ex : ∀ (m : Nat) (c r : St) (j x y w : Int), ¬ (j < n ∧ w = 1) → -100 ≤ j ∧ j ≤ 1000 → An w → TI t T c r → Mo t 192 c0 c → Fm r0 r →
      ∃ c' r' v x' w', d_x4_addUp_8L N t (m + 1) c (s : Int) n x w j = some (c', v) ∧ d_x8_sum_40L N (m + 1) r (s : Int) n y w j = d_x8_sum_84 N r' x' w' ∧ TI t T c' r' ∧ Mo t 192 c0 c' ∧ Fm r0 r' ∧ An v ∧ An w' := by
    intro m c r j x y w hj hjr hw H M F
    have g := hw.rng
    have e48 : ∃ c' v, d_x4_addUp_48 N t c x w = some (c', v) ∧ TI t T c' r ∧ Mo t 192 c0 c' ∧ An v := by
      unfold d_x4_addUp_48 d_x4_addUp_59
      have u := U_valL h2 H x
      by_cases h0 : w32 w = 0
      · exact ⟨up c 50 4 x, 1, by rw [if_pos h0]; rfl, u.1, M.trans u.2, Or.inl rfl⟩
      · by_cases h1 : w32 w = 1
        · exact ⟨up c 50 4 x, 1, by rw [if_neg h0, if_pos h1]; rfl, u.1, M.trans u.2, Or.inl rfl⟩
        · exact ⟨c, w, by rw [if_neg h0, if_neg h1], H, M, hw⟩
    obtain ⟨c', v, e1, e2, e3, e4⟩ := e48
    refine ⟨c', r, v, y, w, ?_, ?_, e2, e3, F, e4, hw⟩
    · show d_x4_addUp_8 N t (d_x4_addUp_8L N t m) c _ n x w j = _
      unfold d_x4_addUp_8
      rw [w32i (x := j) (by omega) (by omega), w32i (x := n) (by omega) (by omega), w32i (x := w) (by omega) (by omega), e1]
      by_cases h1 : j < n
      · rw [if_pos h1, if_neg (fun z => hj ⟨h1, z⟩)]
      · rw [if_neg h1]
    · show d_x8_sum_40 N (d_x8_sum_40L N m) r _ n y w j = _
      unfold d_x8_sum_40
      rw [w32i (x := j) (by omega) (by omega), w32i (x := n) (by omega) (by omega), w32i (x := w) (by omega) (by omega)]
      by_cases h1 : j < n
      · rw [if_pos h1, if_neg (fun z => hj ⟨h1, z⟩)]
      · rw [if_neg h1]
  intro k
  induction k with
  | zero =>
    intro m c r j x y w hk hj hm hw H M F
    obtain ⟨m, rfl⟩ : ∃ m', m = m' + 1 := ⟨m - 1, by omega⟩
    exact ex m c r j x y w (by omega) (by omega) hw H M F
  | succ k ih =>
    intro m c r j x y w hk hj hm hw H M F
    obtain ⟨m, rfl⟩ : ∃ m', m = m' + 1 := ⟨m - 1, by omega⟩
    by_cases hw1 : w = 1
    · subst hw1
      obtain ⟨c1, r1, v1, e1, e2, H1, M1, F1, A1, V1⟩ := L_out h2 hN H hs hne (y := j) (by omega)
      have g1 := A1.rng
      have step : ∃ x1 y1, d_x4_addUp_8L N t (m + 1) c (s : Int) n x 1 j = d_x4_addUp_8L N t m c1 (s : Int) n x1 v1 (j + 1) ∧ d_x8_sum_40L N (m + 1) r (s : Int) n y 1 j = d_x8_sum_40L N m r1 (s : Int) n y1 v1 (j + 1) := by
        show ∃ x1 y1, d_x4_addUp_8 N t (d_x4_addUp_8L N t m) c _ n x 1 j = _ ∧ d_x8_sum_40 N (d_x8_sum_40L N m) r _ n y 1 j = _
        unfold d_x4_addUp_8 d_x8_sum_40 d_x4_addUp_42 d_x8_sum_76
        rw [w32i (x := j) (by omega) (by omega), w32i (x := n) (by omega) (by omega), w32_1, if_pos (show j < n by omega), if_pos (show j < n by omega), if_pos (show (1 : Int) = 1 from rfl), if_pos (show (1 : Int) = 1 from rfl), e1, e2, bI_some, bI_some, w32i (x := v1) (by omega) (by omega)]
        by_cases h1 : v1 = 1
        · rw [if_pos h1, if_pos h1]
          exact ⟨_, _, rfl, rfl⟩
        · rw [if_neg h1, if_neg h1]
          exact ⟨_, _, rfl, rfl⟩
      obtain ⟨x1, y1, s1, s2⟩ := step
      rw [s1, s2]
      exact ih m c1 r1 (j + 1) x1 y1 v1 (by omega) (by omega) (by omega) A1 H1 (M.trans M1) (F.trans F1)
    · exact ex m c r j x y w (fun z => hw1 z.2) (by omega) hw H M F
/-- find -/
theorem L_find {t N : Nat} {T : St} (h2 : T2 t) (hN : 100 ≤ N) {s : Nat} (hs : s < 8) (hne : T 18 s ≠ 0) {n x : Int} (hn : 0 ≤ n ∧ n ≤ 64) (c0 r0 : St) : ∀ (k m : Nat) (c r : St) (j : Int), (k : Int) + j = n → 0 ≤ j → k + 2 < m → TI t T c r → Mo t 192 c0 c → Fm r0 r →
    ∃ c' r' v, d_x4_placeOf_3L N t m c (s : Int) x n j = some (c', v) ∧ d_x8_find_52L N m r (s : Int) x n (-1) 1 j = d_x8_find_121 N r' v ∧ TI t T c' r' ∧ Mo t 192 c0 c' ∧ Fm r0 r' := by
  intro k
  induction k with
  | zero =>
    intro m c r j hk hj hm H M F
    obtain ⟨m, rfl⟩ : ∃ m', m = m' + 1 := ⟨m - 1, by omega⟩
    refine ⟨c, r, -1, ?_, ?_, H, M, F⟩
    · show d_x4_placeOf_3 N t (d_x4_placeOf_3L N t m) c _ x n j = _
      unfold d_x4_placeOf_3
      rw [w32i (x := j) (by omega) (by omega), w32i (x := n) (by omega) (by omega), if_neg (by omega)]
    · show d_x8_find_52 N (d_x8_find_52L N m) r _ x n (-1) 1 j = _
      unfold d_x8_find_52
      rw [w32i (x := j) (by omega) (by omega), w32i (x := n) (by omega) (by omega), if_neg (by omega)]
  | succ k ih =>
    intro m c r j hk hj hm H M F
    obtain ⟨m, rfl⟩ : ∃ m', m = m' + 1 := ⟨m - 1, by omega⟩
    obtain ⟨c1, r1, v1, e1, e2, H1, M1, F1, A1, V1⟩ := L_out h2 hN H hs hne (y := j) (by omega)
    have g1 := A1.rng
    have stop : ∀ (z w : Int), -100 ≤ z ∧ z ≤ 1000 → -100 ≤ w ∧ w ≤ 100 → (w ≠ 1 ∨ z ≠ -1) → d_x8_find_52L N m r1 (s : Int) x n z w (j + 1) = d_x8_find_121 N r1 z := by
      intro z w hz hw hzw
      obtain ⟨m, rfl⟩ : ∃ m', m = m' + 1 := ⟨m - 1, by omega⟩
      show d_x8_find_52 N (d_x8_find_52L N m) r1 _ x n z w (j + 1) = _
      unfold d_x8_find_52
      rw [w32i (x := j + 1) (by omega) (by omega), w32i (x := n) (by omega) (by omega), w32i (x := z) (by omega) (by omega), w32i (x := w) (by omega) (by omega)]
      by_cases a : j + 1 < n
      · rw [if_pos a]
        by_cases b : w = 1
        · rw [if_pos b, if_neg (by omega)]
        · rw [if_neg b]
      · rw [if_neg a]
    have M01 := M.trans M1
    have F01 := F.trans F1
    have ec : d_x4_placeOf_3L N t (m + 1) c (s : Int) x n j = (if v1 = -6 then some (c1, -6) else (if v1 = 1 then (if w64 (c1 50 4) = w64 x then some (c1, j) else d_x4_placeOf_3L N t m c1 (s : Int) x n (j + 1)) else some (c1, -1))) := by
      show d_x4_placeOf_3 N t (d_x4_placeOf_3L N t m) c _ x n j = _
      unfold d_x4_placeOf_3
      rw [w32i (x := j) (by omega) (by omega), w32i (x := n) (by omega) (by omega), if_pos (by omega), e1, bI_some, w32i (x := v1) (by omega) (by omega)]
      rfl
    have er : d_x8_find_52L N (m + 1) r (s : Int) x n (-1) 1 j = (if v1 = 1 then (if w64 (r1 77 38) = w64 x then d_x8_find_52L N m r1 (s : Int) x n j v1 (j + 1) else d_x8_find_52L N m r1 (s : Int) x n (-1) v1 (j + 1)) else (if v1 = -6 then d_x8_find_52L N m r1 (s : Int) x n (-6) v1 (j + 1) else d_x8_find_52L N m r1 (s : Int) x n (-1) v1 (j + 1))) := by
      show d_x8_find_52 N (d_x8_find_52L N m) r _ x n (-1) 1 j = _
      unfold d_x8_find_52 d_x8_find_113 d_x8_find_100 d_x8_find_113
      rw [w32i (x := j) (by omega) (by omega), w32i (x := n) (by omega) (by omega), w32_1, show w32 (-1) = -1 from rfl, if_pos (show j < n by omega), if_pos (show (1 : Int) = 1 from rfl), if_pos (show (-1 : Int) = -1 from rfl), e2, bI_some, w32i (x := v1) (by omega) (by omega)]
      by_cases h1 : v1 = 1
      · rw [if_pos h1, if_pos h1, if_neg (show ¬ v1 = -6 by omega)]
        rfl
      · rw [if_neg h1, if_neg h1]
        rfl
    rw [ec, er]
    by_cases h1 : v1 = 1
    · rw [if_neg (show ¬ v1 = -6 by omega), if_pos h1, if_pos h1, ← V1 h1]
      by_cases hx : w64 (c1 50 4) = w64 x
      · rw [if_pos hx, if_pos hx, stop j v1 (by omega) (by omega) (by omega)]
        exact ⟨c1, r1, j, rfl, rfl, H1, M01, F01⟩
      · rw [if_neg hx, if_neg hx, h1]
        exact ih m c1 r1 (j + 1) (by omega) (by omega) (by omega) H1 M01 F01
    · rw [if_neg h1, if_neg h1]
      by_cases h6 : v1 = -6
      · rw [if_pos h6, if_pos h6, stop (-6) v1 (by omega) (by omega) (by omega)]
        exact ⟨c1, r1, -6, rfl, rfl, H1, M01, F01⟩
      · rw [if_neg h6, if_neg h6, stop (-1) v1 (by omega) (by omega) (by omega)]
        exact ⟨c1, r1, -1, rfl, rfl, H1, M01, F01⟩
/-- rises -/
theorem L_rise {t N : Nat} {T : St} (h2 : T2 t) (hN : 100 ≤ N) {s : Nat} (hs : s < 8) (hne : T 18 s ≠ 0) (c0 r0 : St) : ∀ (k m : Nat) (c r : St) (j x y : Int), (k : Int) + j = 64 → 0 ≤ j → k + 2 < m → (0 < j → x = y) → TI t T c r → Mo t 192 c0 c → Fm r0 r →
    ∃ c' r' v w z, d_x4_rising_5L N t m c (s : Int) x j = some (c', v) ∧ d_x8_rises_40L N m r (s : Int) j y 1 j = d_x8_rises_110 N r' z w ∧ TI t T c' r' ∧ Mo t 192 c0 c' ∧ Fm r0 r' ∧ (-100 ≤ w ∧ w ≤ 100) ∧ ((w = -6 ∧ v = -6) ∨ (w ≠ -6 ∧ v = z)) := by
  intro k
  induction k with
  | zero =>
    intro m c r j x y hk hj hm hxy H M F
    obtain ⟨m, rfl⟩ : ∃ m', m = m' + 1 := ⟨m - 1, by omega⟩
    refine ⟨c, r, 64, 1, j, ?_, ?_, H, M, F, by omega, Or.inr ⟨by omega, by omega⟩⟩
    · show d_x4_rising_5 N t (d_x4_rising_5L N t m) c _ x j = _
      unfold d_x4_rising_5
      rw [w32i (x := j) (by omega) (by omega), if_neg (by omega)]
    · show d_x8_rises_40 N (d_x8_rises_40L N m) r _ j y 1 j = _
      unfold d_x8_rises_40
      rw [w32i (x := j) (by omega) (by omega), if_neg (by omega)]
  | succ k ih =>
    intro m c r j x y hk hj hm hxy H M F
    obtain ⟨m, rfl⟩ : ∃ m', m = m' + 1 := ⟨m - 1, by omega⟩
    obtain ⟨c1, r1, v1, e1, e2, H1, M1, F1, A1, V1⟩ := L_out h2 hN H hs hne (y := j) (by omega)
    have g1 := A1.rng
    have stop : ∀ (z y w : Int), -100 ≤ w ∧ w ≤ 100 → w ≠ 1 → d_x8_rises_40L N m r1 (s : Int) z y w (j + 1) = d_x8_rises_110 N r1 z w := by
      intro z y w hw hw1
      obtain ⟨m, rfl⟩ : ∃ m', m = m' + 1 := ⟨m - 1, by omega⟩
      show d_x8_rises_40 N (d_x8_rises_40L N m) r1 _ z y w (j + 1) = _
      unfold d_x8_rises_40
      rw [w32i (x := j + 1) (by omega) (by omega), w32i (x := w) (by omega) (by omega), if_neg hw1]
      split <;> rfl
    have M01 := M.trans M1
    have F01 := F.trans F1
    have ec : d_x4_rising_5L N t (m + 1) c (s : Int) x j = (if v1 = -6 then some (c1, -6) else (if v1 = 1 then (if 0 < j then (if w64 x < w64 (c1 50 4) then d_x4_rising_5L N t m c1 (s : Int) (c1 50 4) (j + 1) else some (c1, j)) else d_x4_rising_5L N t m c1 (s : Int) (c1 50 4) (j + 1)) else some (c1, j))) := by
      show d_x4_rising_5 N t (d_x4_rising_5L N t m) c _ x j = _
      unfold d_x4_rising_5
      rw [w32i (x := j) (by omega) (by omega), if_pos (by omega), e1, bI_some, w32i (x := v1) (by omega) (by omega)]
      rfl
    have er : d_x8_rises_40L N (m + 1) r (s : Int) j y 1 j = (if v1 = 1 then (if 0 < j then (if w64 y < w64 (r1 77 38) then d_x8_rises_40L N m r1 (s : Int) (j + 1) (r1 77 38) v1 (j + 1) else d_x8_rises_40L N m r1 (s : Int) (j + 0) (r1 77 38) 0 (j + 1)) else d_x8_rises_40L N m r1 (s : Int) (j + 1) (r1 77 38) v1 (j + 1)) else d_x8_rises_40L N m r1 (s : Int) (j + 0) (r1 77 38) v1 (j + 1)) := by
      show d_x8_rises_40 N (d_x8_rises_40L N m) r _ j y 1 j = _
      unfold d_x8_rises_40 d_x8_rises_85 d_x8_rises_97
      rw [w32i (x := j) (by omega) (by omega), w32_1, if_pos (show j < 64 by omega), if_pos (show (1 : Int) = 1 from rfl), e2, bI_some, w32i (x := v1) (by omega) (by omega), w32_0, if_neg (show ¬ (0 : Int) = 1 by decide)]
      by_cases h1 : v1 = 1
      · simp only [if_pos h1]
        rfl
      · simp only [if_neg h1]
        rfl
    rw [ec, er]
    by_cases h1 : v1 = 1
    · rw [if_neg (show ¬ v1 = -6 by omega), if_pos h1, if_pos h1, ← V1 h1, h1]
      by_cases hj0 : 0 < j
      · rw [if_pos hj0, if_pos hj0, hxy hj0]
        by_cases hl : w64 y < w64 (c1 50 4)
        · rw [if_pos hl, if_pos hl]
          exact ih m c1 r1 (j + 1) _ _ (by omega) (by omega) (by omega) (fun _ => rfl) H1 M01 F01
        · rw [if_neg hl, if_neg hl, stop _ _ 0 (by omega) (by omega)]
          exact ⟨c1, r1, j, 0, j + 0, rfl, rfl, H1, M01, F01, by omega, Or.inr ⟨by omega, by omega⟩⟩
      · rw [if_neg hj0, if_neg hj0]
        exact ih m c1 r1 (j + 1) _ _ (by omega) (by omega) (by omega) (fun _ => rfl) H1 M01 F01
    · rw [if_neg h1, if_neg h1, stop _ _ v1 (by omega) h1]
      by_cases h6 : v1 = -6
      · rw [if_pos h6]
        exact ⟨c1, r1, -6, v1, j + 0, rfl, rfl, H1, M01, F01, g1, Or.inl ⟨h6, rfl⟩⟩
      · rw [if_neg h6]
        exact ⟨c1, r1, j, v1, j + 0, rfl, rfl, H1, M01, F01, g1, Or.inr ⟨h6, by omega⟩⟩
