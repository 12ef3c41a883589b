theorem m_173 {N s x : Nat} (hs : s < 8) (hx : x < 24) {k83 : St → Int → Int → Option Rs} : ∀ (f m l : Nat) (r : St), l + f = 8 → f < m → ∃ r1, d_x8_text_173L N k83 m r (s : Int) (x : Int) ((24 * s + x : Nat) : Int) (l : Int) = k83 r1 (s : Int) ((x : Int) + 1) ∧ (∀ i, l ≤ i → i < 8 → r1 85 (8 * (24 * s + x) + i) = r 101 (8 * x + i)) ∧ ∀ a k, ¬ (a = 85 ∧ 8 * (24 * s + x) + l ≤ k ∧ k < 8 * (24 * s + x) + 8) → r1 a k = r a k := by
  intro f
  induction f with
  | zero =>
    intro m l r hl hm
    obtain ⟨m, rfl⟩ : ∃ m', m = m' + 1 := ⟨m - 1, by omega⟩
    refine ⟨r, ?_, fun i h1 h2 => by omega, fun _ _ _ => rfl⟩
    show d_x8_text_173 N k83 (d_x8_text_173L N k83 m) r (s : Int) (x : Int) ((24 * s + x : Nat) : Int) (l : Int) = _
    unfold d_x8_text_173
    rw [w32i (x := (l : Int)) (by omega) (by omega), if_neg (by omega), bd_eq]
  | succ f ih =>
    intro m l r hl hm
    obtain ⟨m, rfl⟩ : ∃ m', m = m' + 1 := ⟨m - 1, by omega⟩
    obtain ⟨r1, e1, e2, e3⟩ := ih m (l + 1) (up r 85 (8 * (24 * s + x) + l) (r 101 (8 * x + l))) (by omega) (by omega)
    refine ⟨r1, ?_, fun i h1 h2 => ?_, fun a k h => ?_⟩
    · show d_x8_text_173 N k83 (d_x8_text_173L N k83 m) r (s : Int) (x : Int) ((24 * s + x : Nat) : Int) (l : Int) = _
      unfold d_x8_text_173
      rw [w32i (x := (l : Int)) (by omega) (by omega), if_pos (by omega), w32i (x := 8 * (x : Int) + (l : Int)) (by omega) (by omega), if_pos (by omega), w32i (x := 8 * ((24 * s + x : Nat) : Int) + (l : Int)) (by omega) (by omega), if_pos (by omega), bd_eq, bd_eq, show (8 * ((24 * s + x : Nat) : Int) + (l : Int)).toNat = 8 * (24 * s + x) + l by omega, show (8 * (x : Int) + (l : Int)).toNat = 8 * x + l by omega]
      exact e1
    · by_cases q : i = l
      · rw [q, e3 85 _ (by omega), up_same]
      · rw [e2 i (by omega) h2, up_ne (by decide)]
    · rw [e3 a k (by omega), up_o (by omega)]
/-- what the model has read lies in its texts -/
def CPY (r r' : St) (s i n : Nat) : Prop := (∀ p, i ≤ p → p < n → (r' 79 (24 * s + p) = r 95 p ∧ r' 80 (24 * s + p) = r 96 p ∧ r' 81 (24 * s + p) = r 97 p ∧ r' 82 (24 * s + p) = r 98 p ∧ r' 83 (24 * s + p) = r 99 p ∧ r' 84 (24 * s + p) = r 100 p) ∧ ∀ l, l < 8 → r' 85 (8 * (24 * s + p) + l) = r 101 (8 * p + l)) ∧ ∀ a k, ¬ (79 ≤ a ∧ a ≤ 84 ∧ 24 * s + i ≤ k ∧ k < 24 * s + n) → ¬ (a = 85 ∧ 8 * (24 * s + i) ≤ k ∧ k < 8 * (24 * s + n)) → r' a k = r a k
theorem m_copy {N s n : Nat} (hN : 100 ≤ N) (hs : s < 8) (hn : n ≤ 24) : ∀ (f m i : Nat) (r : St), i + f = n → f < m → r 77 26 = n → ∃ r', d_x8_text_83L N m r (s : Int) (i : Int) = (bV (d_x8_untells N r') fun s4 => some (s4, (s4 77 26))) ∧ CPY r r' s i n := by
  intro f
  induction f with
  | zero =>
    intro m i r hi hm h26
    obtain ⟨m, rfl⟩ : ∃ m', m = m' + 1 := ⟨m - 1, by omega⟩
    refine ⟨r, ?_, fun p h1 h2 => by omega, fun _ _ _ _ => rfl⟩
    show d_x8_text_83 N (d_x8_text_83L N m) r (s : Int) (i : Int) = _
    unfold d_x8_text_83
    rw [h26, show i = n by omega, if_neg (Int.lt_irrefl _)]
  | succ f ih =>
    intro m i r hi hm h26
    obtain ⟨m, rfl⟩ : ∃ m', m = m' + 1 := ⟨m - 1, by omega⟩
    obtain ⟨r1, e1, e2, e3⟩ := m_173 (N := N) (x := i) hs (by omega) (k83 := d_x8_text_83L N m) 8 N 0 (up (up (up (up (up (up r 79 (24 * s + i) (r 95 i)) 80 (24 * s + i) (r 96 i)) 81 (24 * s + i) (r 97 i)) 82 (24 * s + i) (r 98 i)) 83 (24 * s + i) (r 99 i)) 84 (24 * s + i) (r 100 i)) (by omega) (by omega)
    have o : ∀ a k, ¬ (79 ≤ a ∧ a ≤ 84 ∧ k = 24 * s + i) → ¬ (a = 85 ∧ 8 * (24 * s + i) ≤ k ∧ k < 8 * (24 * s + i) + 8) → r1 a k = r a k := fun a k h1 h2 => by
      rw [e3 a k (by omega), up_o (by omega), up_o (by omega), up_o (by omega), up_o (by omega), up_o (by omega), up_o (by omega)]
    obtain ⟨r', g1, g2, g3⟩ := ih m (i + 1) r1 (by omega) (by omega) (by rw [o 77 26 (by omega) (by omega)]; exact h26)
    refine ⟨r', ?_, fun p h1 h2 => ?_, fun a k h1 h2 => ?_⟩
    · show d_x8_text_83 N (d_x8_text_83L N m) r (s : Int) (i : Int) = _
      unfold d_x8_text_83
      have gi : 0 ≤ (i : Int) ∧ (i : Int) < ((24 : Nat) : Int) := by omega
      have gv : 0 ≤ ((24 * s + i : Nat) : Int) ∧ ((24 * s + i : Nat) : Int) < ((192 : Nat) : Int) := by omega
      have ev : 24 * (s : Int) + (i : Int) = ((24 * s + i : Nat) : Int) := by omega
      rw [h26, w32i (x := (i : Int)) (by omega) (by omega), w32i (x := (n : Int)) (by omega) (by omega), if_pos (by omega), ev, bd_eq, w32i (x := ((24 * s + i : Nat) : Int)) (by omega) (by omega), if_pos gi, if_pos gv, bd_eq, if_pos gi, if_pos gv, bd_eq, if_pos gi, if_pos gv, bd_eq, if_pos gi, if_pos gv, bd_eq, if_pos gi, if_pos gv, bd_eq, if_pos gi, if_pos gv, bd_eq, Int.toNat_natCast, Int.toNat_natCast]
      simp only [up_ne (show (96 : Nat) ≠ 79 by decide), up_ne (show (97 : Nat) ≠ 80 by decide), up_ne (show (97 : Nat) ≠ 79 by decide), up_ne (show (98 : Nat) ≠ 81 by decide), up_ne (show (98 : Nat) ≠ 80 by decide), up_ne (show (98 : Nat) ≠ 79 by decide), up_ne (show (99 : Nat) ≠ 82 by decide), up_ne (show (99 : Nat) ≠ 81 by decide), up_ne (show (99 : Nat) ≠ 80 by decide), up_ne (show (99 : Nat) ≠ 79 by decide), up_ne (show (100 : Nat) ≠ 83 by decide), up_ne (show (100 : Nat) ≠ 82 by decide), up_ne (show (100 : Nat) ≠ 81 by decide), up_ne (show (100 : Nat) ≠ 80 by decide), up_ne (show (100 : Nat) ≠ 79 by decide)]
      exact e1.trans g1
    · by_cases q : p = i
      · subst q
        refine ⟨⟨?_, ?_, ?_, ?_, ?_, ?_⟩, fun l hl => ?_⟩
        · rw [g3 _ _ (by omega) (by omega), e3 _ _ (by omega), up_ne (by decide), up_ne (by decide), up_ne (by decide), up_ne (by decide), up_ne (by decide), up_same]
        · rw [g3 _ _ (by omega) (by omega), e3 _ _ (by omega), up_ne (by decide), up_ne (by decide), up_ne (by decide), up_ne (by decide), up_same]
        · rw [g3 _ _ (by omega) (by omega), e3 _ _ (by omega), up_ne (by decide), up_ne (by decide), up_ne (by decide), up_same]
        · rw [g3 _ _ (by omega) (by omega), e3 _ _ (by omega), up_ne (by decide), up_ne (by decide), up_same]
        · rw [g3 _ _ (by omega) (by omega), e3 _ _ (by omega), up_ne (by decide), up_same]
        · rw [g3 _ _ (by omega) (by omega), e3 _ _ (by omega), up_same]
        · rw [g3 _ _ (by omega) (by omega), e2 l (by omega) hl, up_ne (by decide), up_ne (by decide), up_ne (by decide), up_ne (by decide), up_ne (by decide), up_ne (by decide)]
      · have g := g2 p (by omega) h2
        have e5 := fun a k (h : 95 ≤ a) => o a k (by omega) (by omega)
        rw [e5 95 p (by omega), e5 96 p (by omega), e5 97 p (by omega), e5 98 p (by omega), e5 99 p (by omega), e5 100 p (by omega)] at g
        exact ⟨g.1, fun l hl => by rw [g.2 l hl, e5 101 _ (by omega)]⟩
    · rw [g3 a k (by omega) (by omega)]
      exact o a k (by omega) (by omega)
