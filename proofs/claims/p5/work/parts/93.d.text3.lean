theorem e_kow {N : Nat} (hN : 100 ≤ N) {b : Nat → Int} {s : St} {a e : Nat} (hb : ∀ i, s 11 i = b i) (he : a < e ∧ e ≤ 120) (hr : ∀ l, a ≤ l → l < e → 97 ≤ b l ∧ b l ≤ 122) : d_x2_kindOfWord N s (a : Int) (e : Int) = some (s, kd b a (e - a)) := by
  unfold d_x2_kindOfWord kd
  rw [w32i (x := (e : Int) - (a : Int)) (by omega) (by omega)]
  by_cases h1 : e - a = 1
  · have g := hr a (by omega) (by omega)
    rw [if_pos (by omega), w32i (x := (a : Int)) (by omega) (by omega), if_pos (by omega), Int.toNat_natCast, hb, w32i (x := b a) (by omega) (by omega), if_pos h1]
    by_cases h2 : b a < 105
    · rw [if_pos h2, if_pos h2]
    · rw [if_neg h2, if_neg h2]
  · rw [if_neg (by omega), if_neg h1]
    have loop : ∀ (f m k : Nat), 1 ≤ k → k + f = 14 → f < m → d_x2_kindOfWord_26L N m s (a : Int) (e : Int) (k : Int) = some (s, fk b a (e - a) f k) := by
      intro f
      induction f with
      | zero =>
        intro m k hk hf hm
        obtain ⟨m, rfl⟩ : ∃ m', m = m' + 1 := ⟨m - 1, by omega⟩
        show d_x2_kindOfWord_26 N (d_x2_kindOfWord_26L N m) s (a : Int) (e : Int) (k : Int) = _
        unfold d_x2_kindOfWord_26
        rw [w32i (x := (k : Int)) (by omega) (by omega), if_neg (by omega)]
        rfl
      | succ f ih =>
        intro m k hk hf hm
        obtain ⟨m, rfl⟩ : ∃ m', m = m' + 1 := ⟨m - 1, by omega⟩
        have wd : d_x0_word N s (k : Int) = some (s, (((2 * k + 1) : Nat) : Int)) := by
          have hk' : k = 1 ∨ k = 2 ∨ k = 3 ∨ k = 4 ∨ k = 5 ∨ k = 6 ∨ k = 7 ∨ k = 8 ∨ k = 9 ∨ k = 10 ∨ k = 11 ∨ k = 12 ∨ k = 13 := by omega
          rcases hk' with e | e | e | e | e | e | e | e | e | e | e | e | e <;> subst e <;> rfl
        have iw := e_isw hN hb (k := k) (by omega) he hr
        show d_x2_kindOfWord_26 N (d_x2_kindOfWord_26L N m) s (a : Int) (e : Int) (k : Int) = _
        unfold d_x2_kindOfWord_26
        rw [w32i (x := (k : Int)) (by omega) (by omega), if_pos (by omega), wd, bS_some, Int.toNat_natCast]
        by_cases q : mw b a (e - a) k
        · rw [iw.1 q, bI_some, if_neg (by decide), fk_y q]
        · rw [iw.2 q, bI_some, if_pos (by decide), bd_eq, fk_n q]
          exact ih m (k + 1) (by omega) (by omega) (by omega)
    exact loop 13 N 1 (by omega) (by omega) (by omega)
theorem e_dec {N : Nat} {b : Nat → Int} {s : St} {a e : Nat} (hb : ∀ i, s 11 i = b i) (he : a ≤ e ∧ e ≤ 120) : ∀ (f m j : Nat), a + j + f = e → f < m → d_x2_meaningOf_30L N m s (e : Int) (dv b a j) (((a + j : Nat)) : Int) = some (s, dv b a (e - a)) := by
  intro f
  induction f with
  | zero =>
    intro m j hj hm
    obtain ⟨m, rfl⟩ : ∃ m', m = m' + 1 := ⟨m - 1, by omega⟩
    show d_x2_meaningOf_30 N (d_x2_meaningOf_30L N m) s (e : Int) (dv b a j) _ = _
    unfold d_x2_meaningOf_30
    rw [show a + j = e by omega, if_neg (Int.lt_irrefl _), show e - a = j by omega]
  | succ f ih =>
    intro m j hj hm
    obtain ⟨m, rfl⟩ : ∃ m', m = m' + 1 := ⟨m - 1, by omega⟩
    show d_x2_meaningOf_30 N (d_x2_meaningOf_30L N m) s (e : Int) (dv b a j) _ = _
    unfold d_x2_meaningOf_30
    rw [w32i (x := (((a + j : Nat)) : Int)) (by omega) (by omega), w32i (x := (e : Int)) (by omega) (by omega), if_pos (by omega), if_pos (by omega), bd_eq, bd_eq, Int.toNat_natCast, hb]
    exact ih m (j + 1) (by omega) (by omega)
theorem so_1 {x : Int} : so x = 1 ↔ 97 ≤ x ∧ x ≤ 122 := by
  unfold so
  by_cases h1 : x = 32 ∨ x = 10
  · rw [if_pos h1]
    omega
  · rw [if_neg h1]
    by_cases h2 : 97 ≤ x ∧ x ≤ 122
    · rw [if_pos h2]
      omega
    · rw [if_neg h2]
      split
      · omega
      · split <;> omega
theorem so_2 {x : Int} : so x = 2 ↔ 48 ≤ x ∧ x ≤ 57 := by
  unfold so
  by_cases h1 : x = 32 ∨ x = 10
  · rw [if_pos h1]
    omega
  · rw [if_neg h1]
    by_cases h2 : 97 ≤ x ∧ x ≤ 122
    · rw [if_pos h2]
      omega
    · rw [if_neg h2]
      by_cases h3 : 48 ≤ x ∧ x ≤ 57
      · rw [if_pos h3]
        omega
      · rw [if_neg h3]
        split <;> omega
theorem so_5 {x : Int} : so x = 5 ↔ x = 32 ∨ x = 10 := by
  unfold so
  by_cases h1 : x = 32 ∨ x = 10
  · rw [if_pos h1]
    omega
  · rw [if_neg h1]
    split
    · omega
    · split
      · omega
      · split <;> omega
theorem so_3 {x : Int} : so x = 3 ↔ (x = 43 ∨ x = 45 ∨ x = 42 ∨ x = 47 ∨ x = 37 ∨ x = 60 ∨ x = 62 ∨ x = 61 ∨ x = 44) := by
  unfold so
  by_cases h1 : x = 32 ∨ x = 10
  · rw [if_pos h1]
    omega
  · rw [if_neg h1]
    by_cases h2 : 97 ≤ x ∧ x ≤ 122
    · rw [if_pos h2]
      omega
    · rw [if_neg h2]
      by_cases h3 : 48 ≤ x ∧ x ≤ 57
      · rw [if_pos h3]
        omega
      · rw [if_neg h3]
        by_cases h4 : x = 43 ∨ x = 45 ∨ x = 42 ∨ x = 47 ∨ x = 37 ∨ x = 60 ∨ x = 62 ∨ x = 61 ∨ x = 44
        · rw [if_pos h4]
          exact ⟨fun _ => h4, fun _ => rfl⟩
        · rw [if_neg h4]
          exact ⟨fun q => absurd q (by decide), fun q => absurd q h4⟩
theorem rnf_all {b : Nat → Int} {st : Int} : ∀ m a l, a ≤ l → l < rnf b st m a → so (b l) = st := by
  intro m
  induction m with
  | zero => intro a l h1 h2; exact absurd h2 (by show ¬ l < a; omega)
  | succ m ih =>
    intro a l h1 h2
    by_cases e : so (b a) = st
    · have h2' : l < (if so (b a) = st then rnf b st m (a + 1) else a) := h2
      rw [if_pos e] at h2'
      by_cases q : l = a
      · rw [q]; exact e
      · exact ih (a + 1) l (by omega) h2'
    · have h2' : l < (if so (b a) = st then rnf b st m (a + 1) else a) := h2
      rw [if_neg e] at h2'
      omega
/-- every byte of a word or of digits is of its sort -/
theorem te_all {b : Nat → Int} {z a l : Nat} (h : so (b a) = 1 ∨ so (b a) = 2) (h1 : a ≤ l) (h2 : l < te b z a) : so (b l) = so (b a) := by
  unfold te at h2
  rw [if_pos h] at h2
  by_cases q : l = a
  · rw [q]
  · exact rnf_all _ _ l (by omega) h2
theorem e_mean {N : Nat} (hN : 300 ≤ N) {b : Nat → Int} {s : St} {a z : Nat} (hb : ∀ i, s 11 i = b i) (hz : z ≤ 120) (ha : a < z) : d_x2_meaningOf N s (srt b a (te b z a)) (a : Int) ((te b z a : Nat) : Int) = some (s, mng b a (te b z a)) := by
  have t := te_le (b := b) ha
  have hs := so_r (b a)
  unfold d_x2_meaningOf mng
  have hq : 1 ≤ srt b a (te b z a) ∧ srt b a (te b z a) ≤ 5 := by
    unfold srt
    split <;> omega
  rw [w32i (x := srt b a (te b z a)) (by omega) (by omega)]
  by_cases h1 : srt b a (te b z a) = 1
  · have hso : so (b a) = 1 := by
      unfold srt at h1
      split at h1 <;> omega
    rw [if_pos h1, if_pos h1, e_kow (by omega) hb (by omega) (fun l x y => so_1.mp ((te_all (Or.inl hso) x y).trans hso)), bI_some]
  · rw [if_neg h1, if_neg h1]
    by_cases h2 : srt b a (te b z a) = 2
    · rw [if_pos h2, if_pos h2]
      exact e_dec hb (by omega) (te b z a - a) N 0 (by omega) (by omega)
    · rw [if_neg h2, if_neg h2, w32i (x := (a : Int)) (by omega) (by omega), if_pos (by omega), Int.toNat_natCast, hb]
/-- the class's letters or digits go on -/
theorem e_48 {N : Nat} (hN : 100 ≤ N) {k6 : St → Int → Int → Option Rs} {b : Nat → Int} {s : St} {z : Nat} {x1 x3 st : Int} (hb : ∀ i, s 11 i = b i) (hr : ∀ i, i < z → 0 ≤ b i ∧ b i ≤ 255) (hz : s 1 1 = z ∧ z ≤ 120) (hst : 1 ≤ st ∧ st ≤ 5) : ∀ (f m a : Nat), a + f = z → f < m → d_x2_splitTape_48L N k6 m s x1 (a : Int) x3 st 1 = d_x2_splitTape_81 N k6 s x1 ((rn b z st a : Nat) : Int) x3 st := by
  intro f
  induction f with
  | zero =>
    intro m a ha hm
    obtain ⟨m, rfl⟩ : ∃ m', m = m' + 1 := ⟨m - 1, by omega⟩
    show d_x2_splitTape_48 N k6 (d_x2_splitTape_48L N k6 m) s x1 (a : Int) x3 st 1 = _
    unfold d_x2_splitTape_48
    rw [w32_1, if_neg (by decide), hz.1, show z = a by omega, if_neg (Int.lt_irrefl _), rn_end (Nat.le_refl a)]
  | succ f ih =>
    intro m a ha hm
    obtain ⟨m, rfl⟩ : ∃ m', m = m' + 1 := ⟨m - 1, by omega⟩
    have g := so_r (b a)
    show d_x2_splitTape_48 N k6 (d_x2_splitTape_48L N k6 m) s x1 (a : Int) x3 st 1 = _
    unfold d_x2_splitTape_48
    rw [w32_1, if_neg (by decide), hz.1, w32i (x := (a : Int)) (by omega) (by omega), w32i (x := (z : Int)) (by omega) (by omega), if_pos (by omega), if_pos (by omega), Int.toNat_natCast, hb, e_sort hN (hr a (by omega)), bI_some, w32i (x := so (b a)) (by omega) (by omega), w32i (x := st) (by omega) (by omega)]
    by_cases q : so (b a) = st
    · rw [if_pos q, bd_eq, rn_step (by omega) q]
      exact ih m (a + 1) (by omega) (by omega)
    · rw [if_neg q, rn_stop q]
