/-- the first place from a on whose byte isn't of sort st -/
def rnf (b : Nat → Int) (st : Int) : Nat → Nat → Nat
  | 0, a => a
  | m + 1, a => if so (b a) = st then rnf b st m (a + 1) else a
def rn (b : Nat → Int) (z : Nat) (st : Int) (a : Nat) : Nat := rnf b st (z - a) a
theorem rnf_le {b : Nat → Int} {st : Int} : ∀ m a, a ≤ rnf b st m a ∧ rnf b st m a ≤ a + m := by
  intro m
  induction m with
  | zero => intro a; exact ⟨Nat.le_refl _, Nat.le_refl _⟩
  | succ m ih =>
    intro a
    show a ≤ (if so (b a) = st then rnf b st m (a + 1) else a) ∧ (if so (b a) = st then rnf b st m (a + 1) else a) ≤ a + (m + 1)
    have := ih (a + 1)
    split <;> omega
theorem rn_le {b : Nat → Int} {z a : Nat} {st : Int} (h : a ≤ z) : a ≤ rn b z st a ∧ rn b z st a ≤ z := by
  have := rnf_le (b := b) (st := st) (z - a) a
  unfold rn
  omega
theorem rn_step {b : Nat → Int} {z a : Nat} {st : Int} (h : a < z) (e : so (b a) = st) : rn b z st a = rn b z st (a + 1) := by
  unfold rn
  obtain ⟨m, hm⟩ : ∃ m, z - a = m + 1 := ⟨z - a - 1, by omega⟩
  rw [hm, show z - (a + 1) = m by omega]
  show (if so (b a) = st then rnf b st m (a + 1) else a) = _
  rw [if_pos e]
theorem rn_stop {b : Nat → Int} {z a : Nat} {st : Int} (e : so (b a) ≠ st) : rn b z st a = a := by
  unfold rn
  cases z - a with
  | zero => rfl
  | succ m =>
    show (if so (b a) = st then rnf b st m (a + 1) else a) = _
    rw [if_neg e]
theorem rn_end {b : Nat → Int} {z a : Nat} {st : Int} (h : z ≤ a) : rn b z st a = a := by
  unfold rn
  rw [show z - a = 0 by omega]
  rfl
/-- the end of the TOKEN at a -/
def te (b : Nat → Int) (z a : Nat) : Nat := if so (b a) = 1 ∨ so (b a) = 2 then rn b z (so (b a)) (a + 1) else a + 1
theorem te_le {b : Nat → Int} {z a : Nat} (h : a < z) : a < te b z a ∧ te b z a ≤ z := by
  unfold te
  split
  · have := rn_le (b := b) (z := z) (a := a + 1) (st := so (b a)) (by omega)
    omega
  · omega
/-- where TOKEN j begins -/
def bgf (b : Nat → Int) (z : Nat) : Nat → Nat
  | 0 => rn b z 5 0
  | j + 1 => if bgf b z j < z then rn b z 5 (te b z (bgf b z j)) else z
theorem bgf_le {b : Nat → Int} {z : Nat} : ∀ j, bgf b z j ≤ z := by
  intro j
  cases j with
  | zero => exact (rn_le (by omega)).2
  | succ j =>
    show (if bgf b z j < z then rn b z 5 (te b z (bgf b z j)) else z) ≤ z
    split
    · rename_i h
      exact (rn_le (te_le h).2).2
    · exact Nat.le_refl _
def mw (b : Nat → Int) (a n k : Nat) : Prop := n ≤ 5 ∧ ∀ l, l < 5 → (if l < n then b (a + l) else 0) = (tl k).getD l 0
def mwD (b : Nat → Int) (a n k : Nat) : Decidable (mw b a n k) := inferInstanceAs (Decidable (n ≤ 5 ∧ ∀ l, l < 5 → (if l < n then b (a + l) else 0) = (tl k).getD l 0))
def fk (b : Nat → Int) (a n : Nat) : Nat → Nat → Int
  | 0, _ => -1
  | m + 1, k => @ite Int (mw b a n k) (mwD b a n k) (k : Int) (fk b a n m (k + 1))
theorem fk_y {b : Nat → Int} {a n m k : Nat} (h : mw b a n k) : fk b a n (m + 1) k = k := by
  unfold fk
  exact if_pos h
theorem fk_n {b : Nat → Int} {a n m k : Nat} (h : ¬ mw b a n k) : fk b a n (m + 1) k = fk b a n m (k + 1) := by
  show fk b a n (m + 1) k = _
  rw [fk]
  exact if_neg h
theorem fk_r {b : Nat → Int} {a n : Nat} : ∀ m k, fk b a n m k = -1 ∨ ((k : Int) ≤ fk b a n m k ∧ fk b a n m k < k + m) := by
  intro m
  induction m with
  | zero => intro k; exact Or.inl rfl
  | succ m ih =>
    intro k
    by_cases h : mw b a n k
    · rw [fk_y h]
      omega
    · rw [fk_n h]
      have := ih (k + 1)
      omega
theorem tlw : ∀ k : Fin 14, k.val ≠ 0 → 3 ≤ (tl k.val).length ∧ (tl k.val).length ≤ 5 ∧ (tl k.val).getD 1 0 ≠ 0 ∧ ∀ l : Fin 5, ((tl k.val).getD l.val 0 ≠ 0 ↔ l.val < (tl k.val).length) := by decide +kernel
/-- a word of one letter is none of the kinds -/
theorem fk_1 {b : Nat → Int} {a : Nat} : ∀ m k, 1 ≤ k → k + m = 14 → fk b a 1 m k = -1 := by
  intro m
  induction m with
  | zero => intro k _ _; rfl
  | succ m ih =>
    intro k hk h
    rw [fk_n (fun q => ?_)]
    · exact ih (k + 1) (by omega) (by omega)
    · have t : (tl k).getD 1 0 ≠ 0 := (tlw ⟨k, by omega⟩ (by show k ≠ 0; omega)).2.2.1
      have := q.2 1 (by decide)
      rw [if_neg (by decide)] at this
      exact t this.symm
/-- the kind of a word; -1 for none -/
def kd (b : Nat → Int) (a n : Nat) : Int := if n = 1 then (if b a < 105 then 0 else -1) else fk b a n 13 1
def dv (b : Nat → Int) (a : Nat) : Nat → Int
  | 0 => 0
  | n + 1 => dv b a n * 10 + b (a + n) - 48
def srt (b : Nat → Int) (a e : Nat) : Int := if so (b a) = 2 ∧ 4 < e - a then 4 else so (b a)
def mng (b : Nat → Int) (a e : Nat) : Int := if srt b a e = 1 then kd b a (e - a) else if srt b a e = 2 then dv b a (e - a) else b a
theorem e_isw {N : Nat} (hN : 100 ≤ N) {b : Nat → Int} {s : St} {a e k : Nat} (hb : ∀ i, s 11 i = b i) (hk : 1 ≤ k ∧ k ≤ 13) (he : a < e ∧ e ≤ 120) (hr : ∀ l, a ≤ l → l < e → 97 ≤ b l ∧ b l ≤ 122) : (mw b a (e - a) k → d_x2_isWord N s (2 * k + 1) (a : Int) (e : Int) = some (s, 1)) ∧ (¬ mw b a (e - a) k → d_x2_isWord N s (2 * k + 1) (a : Int) (e : Int) = some (s, 0)) := by
  obtain ⟨t1, t2, t3, t4⟩ := tx_all (N := N) (i := k) (by omega)
  have tw := tlw ⟨k, by omega⟩ (by show k ≠ 0; omega)
  have w1 : 3 ≤ (tl k).length := tw.1
  have w2 : (tl k).length ≤ 5 := tw.2.1
  have w3 : ∀ l, l < 5 → ((tl k).getD l 0 ≠ 0 ↔ l < (tl k).length) := fun l hl => tw.2.2.2 ⟨l, hl⟩
  have w4 : ∀ l, l < (tl k).length → 0 ≤ (tl k).getD l 0 ∧ (tl k).getD l 0 < 128 := fun l hl => by
    have ok : (tl k).length ≤ 9 ∧ (tl k).all (fun x => decide (0 ≤ x ∧ x < 128)) = true := tl_ok ⟨k, by omega⟩
    exact of_decide_eq_true (List.all_eq_true.mp ok.2 _ (gd_mem.mpr ⟨l, hl, rfl⟩))
  have hlen : mw b a (e - a) k → e - a = (tl k).length := fun q => by
    have q5 := q.1
    by_cases c1 : e - a < (tl k).length
    · have := q.2 (e - a) (by omega)
      rw [if_neg (by omega)] at this
      exact absurd this.symm ((w3 (e - a) (by omega)).mpr c1)
    · by_cases c2 : (tl k).length < e - a
      · have q2 := q.2 (tl k).length (by omega)
        rw [if_pos c2] at q2
        have := hr (a + (tl k).length) (by omega) (by omega)
        have z := (w3 (tl k).length (by omega)).mp (by rw [← q2]; omega)
        omega
      · omega
  unfold d_x2_isWord
  rw [if_neg t1, if_pos t2, t3, bI_some, w32i (x := ((tl k).length : Int)) (by omega) (by omega), w32i (x := (e : Int) - (a : Int)) (by omega) (by omega)]
  by_cases hl : e - a = (tl k).length
  · rw [if_pos (by omega)]
    have loop : ∀ (f m j : Nat), j + f = (tl k).length → f < m → (∀ l, l < j → b (a + l) = (tl k).getD l 0) → ((∀ l, l < (tl k).length → b (a + l) = (tl k).getD l 0) → d_x2_isWord_15L N m s (2 * k + 1) (a : Int) (j : Int) = some (s, 1)) ∧ (¬ (∀ l, l < (tl k).length → b (a + l) = (tl k).getD l 0) → d_x2_isWord_15L N m s (2 * k + 1) (a : Int) (j : Int) = some (s, 0)) := by
      intro f
      induction f with
      | zero =>
        intro m j hj hm hp
        obtain ⟨m, rfl⟩ : ∃ m', m = m' + 1 := ⟨m - 1, by omega⟩
        have e1 : d_x2_isWord_15L N (m + 1) s (2 * k + 1) (a : Int) (j : Int) = some (s, 1) := by
          show d_x2_isWord_15 N (d_x2_isWord_15L N m) s (2 * k + 1) (a : Int) (j : Int) = _
          unfold d_x2_isWord_15
          have ej : (j : Int) = ((tl k).length : Int) := by omega
          rw [if_neg t1, if_pos t2, t3, bI_some, ej, if_neg (Int.lt_irrefl _)]
        exact ⟨fun _ => e1, fun q => absurd (fun l hl => hp l (by omega)) q⟩
      | succ f ih =>
        intro m j hj hm hp
        obtain ⟨m, rfl⟩ : ∃ m', m = m' + 1 := ⟨m - 1, by omega⟩
        have g := w4 j (by omega)
        have g2 := hr (a + j) (by omega) (by omega)
        have u : d_x2_isWord_15L N (m + 1) s (2 * k + 1) (a : Int) (j : Int) = (if b (a + j) = (tl k).getD j 0 then d_x2_isWord_15L N m s (2 * k + 1) (a : Int) ((j : Int) + 1) else some (s, 0)) := by
          show d_x2_isWord_15 N (d_x2_isWord_15L N m) s (2 * k + 1) (a : Int) (j : Int) = _
          unfold d_x2_isWord_15
          rw [if_neg t1, if_pos t2, t3, bI_some, w32i (x := (j : Int)) (by omega) (by omega), w32i (x := ((tl k).length : Int)) (by omega) (by omega), if_pos (by omega), w32i (x := (a : Int) + (j : Int)) (by omega) (by omega), if_pos (by omega), if_neg t1, if_pos t2, t4 s j (by omega), bI_some, show ((a : Int) + (j : Int)).toNat = a + j by omega, hb, w32i (x := b (a + j)) (by omega) (by omega), w32i (x := (tl k).getD j 0) (by omega) (by omega), bd_eq]
        rw [u]
        by_cases y : b (a + j) = (tl k).getD j 0
        · rw [if_pos y]
          exact ih m (j + 1) (by omega) (by omega) (fun l hl => by
            by_cases q : l = j
            · rw [q]; exact y
            · exact hp l (by omega))
        · rw [if_neg y]
          exact ⟨fun q => absurd (q j (by omega)) y, fun _ => rfl⟩
    have l0 := loop (tl k).length N 0 (by omega) (by omega) (fun l hl => by omega)
    refine ⟨fun q => l0.1 (fun l hl => ?_), fun q => l0.2 (fun y => q ⟨by omega, fun l hl => ?_⟩)⟩
    · have := q.2 l (by omega)
      rw [if_pos (by omega)] at this
      exact this
    · by_cases z : l < e - a
      · rw [if_pos z]
        exact y l (by omega)
      · rw [if_neg z]
        exact (Classical.byContradiction (fun w => z (by have := (w3 l hl).mp (fun v => w v.symm); omega)))
  · rw [if_neg (by omega)]
    exact ⟨fun q => absurd (hlen q) hl, fun _ => rfl⟩
