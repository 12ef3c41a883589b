theorem e_81 {N : Nat} (hN : 300 ≤ N) {k6 : St → Int → Int → Option Rs} {b : Nat → Int} {s : St} {z a j : Nat} (hb : ∀ i, s 11 i = b i) (hz : z ≤ 120) (ha : a < z) (hj : j < 121) (h5 : so (b a) ≠ 5) : d_x2_splitTape_81 N k6 s (j : Int) ((te b z a : Nat) : Int) (a : Int) (so (b a)) = k6 (up (up (up s 12 j (a : Int)) 13 j (srt b a (te b z a))) 14 j (mng b a (te b z a))) ((j : Int) + 1) ((te b z a : Nat) : Int) := by
  have t := te_le (b := b) ha
  have g := so_r (b a)
  have gj : 0 ≤ (j : Int) ∧ (j : Int) < ((121 : Nat) : Int) := by omega
  have wj : w32 (j : Int) = j := w32i (by omega) (by omega)
  have main : d_x2_splitTape_121 N k6 (up s 12 j (a : Int)) (j : Int) ((te b z a : Nat) : Int) (a : Int) (srt b a (te b z a)) (j : Int) = k6 (up (up (up s 12 j (a : Int)) 13 j (srt b a (te b z a))) 14 j (mng b a (te b z a))) ((j : Int) + 1) ((te b z a : Nat) : Int) := by
    unfold d_x2_splitTape_121 d_x2_splitTape_143
    rw [wj, if_pos gj, bd_eq, if_pos gj, Int.toNat_natCast, up_same, e_mean hN (b := b) (fun i => by rw [up_ne (by decide), up_ne (by decide)]; exact hb i) hz ha, bI_some, if_pos gj, bd_eq, bd_eq]
  unfold d_x2_splitTape_81 d_x2_splitTape_119
  rw [w32i (x := so (b a)) (by omega) (by omega), if_neg h5, wj, if_pos gj, bd_eq, Int.toNat_natCast, w32i (x := ((te b z a : Nat) : Int) - (a : Int)) (by omega) (by omega)]
  by_cases h2 : so (b a) = 2
  · rw [if_pos h2]
    by_cases h4 : 4 < te b z a - a
    · have e : srt b a (te b z a) = 4 := by unfold srt; rw [if_pos ⟨h2, h4⟩]
      rw [if_pos (by omega)]
      rw [e] at main ⊢
      exact main
    · have e : srt b a (te b z a) = so (b a) := by unfold srt; rw [if_neg (fun q => h4 q.2)]
      rw [if_neg (by omega)]
      rw [e] at main ⊢
      exact main
  · have e : srt b a (te b z a) = so (b a) := by unfold srt; rw [if_neg (fun q => h2 q.1)]
    rw [if_neg h2]
    rw [e] at main ⊢
    exact main
/-- the class's TOKENS -/
def SP (c s : St) (b : Nat → Int) (z j : Nat) : Prop := (∀ a k, ¬ (a = 12 ∨ a = 13 ∨ a = 14) → s a k = c a k) ∧ ∀ i, i < j → bgf b z i < z ∧ s 12 i = (bgf b z i : Nat) ∧ s 13 i = srt b (bgf b z i) (te b z (bgf b z i)) ∧ s 14 i = mng b (bgf b z i) (te b z (bgf b z i))
def SQ (c s : St) (b : Nat → Int) (z n : Nat) : Prop := SP c s b z n ∧ n ≤ z ∧ bgf b z n = z ∧ s 12 n = (z : Nat) ∧ s 13 n = 0 ∧ s 14 n = 0
theorem SP.add {c s : St} {b : Nat → Int} {z j a : Nat} (H : SP c s b z j) (ha : a < z) (e : bgf b z j = a) : SP c (up (up (up s 12 j (a : Int)) 13 j (srt b a (te b z a))) 14 j (mng b a (te b z a))) b z (j + 1) := by
  refine ⟨fun x k h => ?_, fun i hi => ?_⟩
  · rw [up_ne (by omega), up_ne (by omega), up_ne (by omega)]
    exact H.1 x k h
  · by_cases q : i = j
    · subst q
      rw [e]
      refine ⟨ha, ?_, ?_, ?_⟩
      · rw [up_ne (by decide), up_ne (by decide), up_same]
      · rw [up_ne (by decide), up_same]
      · rw [up_same]
    · have h := H.2 i (by omega)
      refine ⟨h.1, ?_, ?_, ?_⟩
      · rw [up_ne (by decide), up_ne (by decide), up_nj (by omega)]
        exact h.2.1
      · rw [up_ne (by decide), up_nj (by omega), up_ne (by decide)]
        exact h.2.2.1
      · rw [up_nj (by omega), up_ne (by decide), up_ne (by decide)]
        exact h.2.2.2
theorem e_split {N : Nat} (hN : 300 ≤ N) {c : St} {b : Nat → Int} {z : Nat} (hb : ∀ i, c 11 i = b i) (hr : ∀ i, i < z → 0 ≤ b i ∧ b i ≤ 255) (hz : c 1 1 = z ∧ z ≤ 120) : ∀ (f m a j : Nat) (s : St), z - a ≤ f → f < m → a ≤ z → j ≤ a → rn b z 5 a = bgf b z j → SP c s b z j → One (d_x2_splitTape_6L N m s (j : Int) (a : Int)) (fun s' _ => ∃ n, SQ c s' b z n) := by
  have fin : ∀ (m j : Nat) (s : St), j ≤ z → bgf b z j = z → SP c s b z j → One (d_x2_splitTape_6L N (m + 1) s (j : Int) (z : Int)) (fun s' _ => ∃ n, SQ c s' b z n) := by
    intro m j s hj he H
    have ez : s 1 1 = z := (H.1 1 1 (by omega)).trans hz.1
    have gj : 0 ≤ (j : Int) ∧ (j : Int) < ((121 : Nat) : Int) := by omega
    show One (d_x2_splitTape_6 N (d_x2_splitTape_6L N m) s (j : Int) (z : Int)) _
    unfold d_x2_splitTape_6
    rw [ez, if_neg (Int.lt_irrefl _), w32i (x := (j : Int)) (by omega) (by omega), if_pos gj, bd_eq, if_pos gj, bd_eq, if_pos gj, bd_eq, Int.toNat_natCast]
    refine One.ret ⟨j, ⟨⟨fun x k h => ?_, fun i hi => ?_⟩, hj, he, ?_, ?_, ?_⟩⟩
    · rw [up_ne (by omega), up_ne (by omega), up_ne (by omega)]
      exact H.1 x k h
    · have h := H.2 i hi
      refine ⟨h.1, ?_, ?_, ?_⟩
      · rw [up_ne (by decide), up_ne (by decide), up_nj (by omega)]
        exact h.2.1
      · rw [up_ne (by decide), up_nj (by omega), up_ne (by decide)]
        exact h.2.2.1
      · rw [up_nj (by omega), up_ne (by decide), up_ne (by decide)]
        exact h.2.2.2
    · rw [up_ne (by decide), up_ne (by decide), up_same]
    · rw [up_ne (by decide), up_same]
    · rw [up_same]
  intro f
  induction f with
  | zero =>
    intro m a j s hf hm haz hja he H
    obtain ⟨m, rfl⟩ : ∃ m', m = m' + 1 := ⟨m - 1, by omega⟩
    have : a = z := by omega
    subst this
    exact fin m j s hja (by rw [← he, rn_end (Nat.le_refl _)]) H
  | succ f ih =>
    intro m a j s hf hm haz hja he H
    obtain ⟨m, rfl⟩ : ∃ m', m = m' + 1 := ⟨m - 1, by omega⟩
    by_cases hend : a = z
    · subst hend
      exact fin m j s hja (by rw [← he, rn_end (Nat.le_refl _)]) H
    · have ez : s 1 1 = z := (H.1 1 1 (by omega)).trans hz.1
      have eb : ∀ i, s 11 i = b i := fun i => (H.1 11 i (by omega)).trans (hb i)
      have g := so_r (b a)
      show One (d_x2_splitTape_6 N (d_x2_splitTape_6L N m) s (j : Int) (a : Int)) _
      unfold d_x2_splitTape_6
      rw [ez, w32i (x := (a : Int)) (by omega) (by omega), w32i (x := (z : Int)) (by omega) (by omega), if_pos (by omega), if_pos (by omega), Int.toNat_natCast, eb, e_sort (by omega) (hr a (by omega)), bI_some, w32i (x := so (b a)) (by omega) (by omega)]
      have zero : ∀ k : St → Int → Int → Option Rs, d_x2_splitTape_42 N k s (j : Int) (a : Int) (so (b a)) 0 = d_x2_splitTape_81 N k s (j : Int) ((a : Int) + 1) (a : Int) (so (b a)) := by
        intro k
        unfold d_x2_splitTape_42
        rw [bd_eq]
        obtain ⟨m', hm'⟩ : ∃ m', N = m' + 1 := ⟨N - 1, by omega⟩
        have u : d_x2_splitTape_48L N k N s (j : Int) ((a : Int) + 1) (a : Int) (so (b a)) 0 = d_x2_splitTape_48 N k (d_x2_splitTape_48L N k m') s (j : Int) ((a : Int) + 1) (a : Int) (so (b a)) 0 := by
          conv => lhs; arg 3; rw [hm']
          rfl
        rw [u]
        unfold d_x2_splitTape_48
        rw [if_pos w32_0]
      by_cases h5 : so (b a) = 5
      · rw [if_neg (by omega), if_neg (by omega), zero, h5]
        unfold d_x2_splitTape_81 d_x2_splitTape_143
        rw [if_pos (by decide)]
        exact ih m (a + 1) j s (by omega) (by omega) (by omega) (by omega) (by rw [← rn_step (by omega) h5]; exact he) H
      · have ea : bgf b z j = a := by rw [← he, rn_stop h5]
        have t := te_le (b := b) (show a < z by omega)
        have nx : bgf b z (j + 1) = rn b z 5 (te b z a) := by
          show (if bgf b z j < z then rn b z 5 (te b z (bgf b z j)) else z) = _
          rw [ea, if_pos (by omega)]
        have go : One (d_x2_splitTape_81 N (d_x2_splitTape_6L N m) s (j : Int) ((te b z a : Nat) : Int) (a : Int) (so (b a))) (fun s' _ => ∃ n, SQ c s' b z n) := by
          rw [e_81 hN eb hz.2 (by omega) (by omega) h5]
          exact ih m (te b z a) (j + 1) _ (by omega) (by omega) (by omega) (by omega) nx.symm (H.add (by omega) ea)
        by_cases h12 : so (b a) = 1 ∨ so (b a) = 2
        · have et : te b z a = rn b z (so (b a)) (a + 1) := by unfold te; rw [if_pos h12]
          have one : d_x2_splitTape_37 N (d_x2_splitTape_6L N m) s (j : Int) (a : Int) (so (b a)) = d_x2_splitTape_81 N (d_x2_splitTape_6L N m) s (j : Int) ((te b z a : Nat) : Int) (a : Int) (so (b a)) := by
            unfold d_x2_splitTape_37 d_x2_splitTape_42
            rw [bd_eq, et]
            exact e_48 (by omega) eb hr ⟨ez, hz.2⟩ g (z - (a + 1)) N (a + 1) (by omega) (by omega)
          by_cases h1 : so (b a) = 1
          · rw [if_pos h1, one]
            exact go
          · rw [if_neg h1, if_pos (by omega), one]
            exact go
        · have et : te b z a = a + 1 := by unfold te; rw [if_neg h12]
          rw [if_neg (by omega), if_neg (by omega), zero]
          rw [et] at go
          exact go
theorem e_splitT {N : Nat} (hN : 300 ≤ N) {c : St} {b : Nat → Int} {z : Nat} (hb : ∀ i, c 11 i = b i) (hr : ∀ i, i < z → 0 ≤ b i ∧ b i ≤ 255) (hz : c 1 1 = z ∧ z ≤ 120) : One (d_x2_splitTape N c) (fun s' _ => ∃ n, SQ c s' b z n) := by
  unfold d_x2_splitTape
  exact e_split hN hb hr hz z N 0 0 c (by omega) (by omega) (by omega) (by omega) rfl ⟨fun _ _ _ => rfl, fun i hi => absurd hi (by omega)⟩
