/-! texts T (class 18 .. 25, model 78 .. 85) -/
def VP (T : St) (p : Nat) : Prop := p < 192 ∧ ((p % 24 : Nat) : Int) < T 18 (p / 24)
def WFp (T : St) (p : Nat) : Prop := (T 79 p = T 19 p ∧ T 80 p = T 20 p ∧ T 81 p = T 23 p ∧ T 84 p = T 24 p ∧ 0 ≤ T 19 p ∧ T 19 p ≤ 13 ∧ 1 ≤ T 23 p ∧ T 23 p ≤ 24)
  ∧ (T 19 p ≠ 2 → T 82 p = T 21 p ∧ -9999 ≤ T 21 p ∧ T 21 p ≤ 9999)
  ∧ (T 19 p = 0 → 0 ≤ T 21 p ∧ T 21 p ≤ 7)
  ∧ (T 19 p = 1 → T 83 p = T 22 p ∧ -9999 ≤ T 22 p ∧ T 22 p ≤ 9999)
  ∧ (T 19 p = 2 → 1 ≤ T 24 p ∧ T 24 p ≤ 8 ∧ ∀ i : Nat, (i : Int) < T 24 p → T 85 (8 * p + i) = T 25 (8 * p + i))
  ∧ (T 19 p ≠ 2 → T 24 p = 0)
  ∧ (T 19 p = 8 ∨ T 19 p = 9 → 0 ≤ T 21 p)
  ∧ (T 19 p = 13 → 1 ≤ T 21 p ∧ T 21 p ≤ 9)
  ∧ (T 19 p = 3 ∨ T 19 p = 6 ∨ T 19 p = 10 → T 20 p = 42 ∨ T 20 p = 43 ∨ T 20 p = 45 ∨ T 20 p = 47 ∨ T 20 p = 37)
  ∧ (T 19 p = 4 ∨ T 19 p = 5 → T 20 p = 60 ∨ T 20 p = 61 ∨ T 20 p = 62 ∨ T 20 p = 37)
  ∧ (¬ (T 19 p = 3 ∨ T 19 p = 4 ∨ T 19 p = 5 ∨ T 19 p = 6 ∨ T 19 p = 10) → T 20 p = 0)
  ∧ (3 ≤ T 19 p → VP T (p + 1) ∧ (p + 1) / 24 = p / 24)
  ∧ (T 19 p = 6 ∨ T 19 p = 7 → VP T (p + 1 + (T 23 (p + 1)).toNat) ∧ (p + 1 + (T 23 (p + 1)).toNat) / 24 = p / 24)
def WT (T : St) : Prop := (∀ s : Nat, s < 8 → T 78 s = T 18 s ∧ 0 ≤ T 18 s ∧ T 18 s ≤ 24) ∧ ∀ p, VP T p → WFp T p
/-- the part that is asked where a name is -/
def rs (T : St) : Nat → Nat → Int
  | 0, _ => -21
  | n + 1, p => if T 19 p = 0 then (if T 18 (T 21 p).toNat = 0 then -23 else rs T n (24 * (T 21 p).toNat)) else (p : Int)
def res (T : St) (p : Nat) : Int := rs T 9 p
def ct (c T : St) : Prop := ∀ a k, 18 ≤ a → a ≤ 25 → c a k = T a k
def rt (r T : St) : Prop := ∀ a k, 78 ≤ a → a ≤ 85 → r a k = T a k
theorem VP.str {T : St} (W : WT T) {s : Nat} (hs : s < 8) (h : T 18 s ≠ 0) : VP T (24 * s) := by
  have := W.1 s hs
  refine ⟨by omega, ?_⟩
  rw [show 24 * s / 24 = s by omega, show 24 * s % 24 = 0 by omega]
  omega
theorem rs_ok {T : St} (W : WT T) : ∀ n p, VP T p → (∃ q : Nat, rs T n p = q ∧ VP T q ∧ T 19 q ≠ 0) ∨ rs T n p = -21 ∨ rs T n p = -23 := by
  intro n
  induction n with
  | zero => intro p _; right; left; rfl
  | succ n ih =>
    intro p hp
    unfold rs
    by_cases h : T 19 p = 0
    · rw [if_pos h]
      by_cases h2 : T 18 (T 21 p).toNat = 0
      · rw [if_pos h2]; omega
      · rw [if_neg h2]
        have := (W.2 p hp).2.2.1 h
        exact ih _ (VP.str W (by omega) h2)
    · rw [if_neg h]
      exact Or.inl ⟨p, rfl, hp, h⟩
theorem res_ok {T : St} (W : WT T) {p : Nat} (hp : VP T p) : (∃ q : Nat, res T p = q ∧ VP T q ∧ T 19 q ≠ 0) ∨ res T p = -21 ∨ res T p = -23 := rs_ok W 9 p hp
theorem res_self {T : St} {p : Nat} (h : T 19 p ≠ 0) : res T p = p := if_neg h
theorem e_behindL {T c : St} (W : WT T) (hc : ct c T) (N : Nat) : ∀ h n p, VP T p → h < n → h ≤ 9 → d_x4_behindNames_4L N n c (p : Int) ((9 : Int) - h) = some (c, rs T h p) := by
  intro h
  induction h with
  | zero =>
    intro n p _ hn _
    obtain ⟨n, rfl⟩ : ∃ m, n = m + 1 := ⟨n - 1, by omega⟩
    show d_x4_behindNames_4 N (d_x4_behindNames_4L N n) c p _ = _
    unfold d_x4_behindNames_4
    rw [if_pos (by rw [w32i (by omega) (by omega)]; omega)]
    rfl
  | succ h ih =>
    intro n p hp hn h9
    obtain ⟨n, rfl⟩ : ∃ m, n = m + 1 := ⟨n - 1, by omega⟩
    have hp1 := hp.1
    have w := W.2 p hp
    have w0 := w.2.2.1
    have w1 := w.1
    show d_x4_behindNames_4 N (d_x4_behindNames_4L N n) c p _ = _
    unfold d_x4_behindNames_4 rs
    simp only [bd_eq]
    rw [w32i (x := (9 : Int) - ((h + 1 : Nat) : Int)) (by omega) (by omega), w32i (x := (p : Int)) (by omega) (by omega), w32i (x := ((192 : Nat) : Int)) (by omega) (by omega), Int.toNat_natCast, hc 19 p (by omega) (by omega), hc 21 p (by omega) (by omega), if_neg (show ¬ (8 < (9 : Int) - ((h + 1 : Nat) : Int)) by omega), if_neg (show ¬ (p : Int) < 0 by omega), if_pos (show (p : Int) < ((192 : Nat) : Int) by omega), if_pos (show 0 ≤ (p : Int) ∧ (p : Int) < ((192 : Nat) : Int) by omega), w32i (x := T 19 p) (by omega) (by omega)]
    by_cases hz : T 19 p = 0
    · have := w0 hz
      rw [if_pos hz, if_pos hz, if_pos (show 0 ≤ (p : Int) ∧ (p : Int) < ((192 : Nat) : Int) by omega), w32i (x := T 21 p) (by omega) (by omega), if_neg (by omega), if_pos (by omega), if_pos (by omega), hc 18 _ (by omega) (by omega)]
      obtain ⟨s, hs⟩ : ∃ s : Nat, T 21 p = s := ⟨(T 21 p).toNat, by omega⟩
      have w8 := W.1 s (by omega)
      rw [hs, Int.toNat_natCast, w32i (x := T 18 s) (by omega) (by omega)]
      by_cases h2 : T 18 s = 0
      · rw [if_pos h2, if_pos h2]
      · rw [if_neg h2, if_neg h2]
        have := ih n (24 * s) (VP.str W (by omega) h2) (by omega) (by omega)
        rw [← this]
        congr 1 <;> omega
    · rw [if_neg hz, if_neg hz]
theorem e_behind {T c : St} (W : WT T) (hc : ct c T) {N : Nat} (hN : 100 ≤ N) {p : Nat} (hp : VP T p) : d_x4_behindNames N c (p : Int) = some (c, res T p) := e_behindL W hc N 9 N p hp (by omega) (by omega)
theorem e_followL {T r : St} (W : WT T) (hr : rt r T) (N : Nat) : ∀ h n p, VP T p → h < n → h ≤ 9 → d_x8_followed_4L N n r (p : Int) ((9 : Int) - h) = some (r, rs T h p) := by
  intro h
  induction h with
  | zero =>
    intro n p _ hn _
    obtain ⟨n, rfl⟩ : ∃ m, n = m + 1 := ⟨n - 1, by omega⟩
    show d_x8_followed_4 N (d_x8_followed_4L N n) r p _ = _
    unfold d_x8_followed_4
    rw [if_pos (by rw [w32i (by omega) (by omega)]; omega)]
    rfl
  | succ h ih =>
    intro n p hp hn h9
    obtain ⟨n, rfl⟩ : ∃ m, n = m + 1 := ⟨n - 1, by omega⟩
    have hp1 := hp.1
    have w := W.2 p hp
    have w0 := w.2.2.1
    have w2 := w.2.1
    have w1 := w.1
    show d_x8_followed_4 N (d_x8_followed_4L N n) r p _ = _
    unfold d_x8_followed_4 rs
    simp only [bd_eq]
    rw [w32i (x := (9 : Int) - ((h + 1 : Nat) : Int)) (by omega) (by omega), w32i (x := (p : Int)) (by omega) (by omega), Int.toNat_natCast, hr 79 p (by omega) (by omega), hr 82 p (by omega) (by omega), if_neg (show ¬ (8 < (9 : Int) - ((h + 1 : Nat) : Int)) by omega), if_pos (show 0 ≤ (p : Int) ∧ (p : Int) < ((192 : Nat) : Int) by omega), w1.1, w32i (x := T 19 p) (by omega) (by omega)]
    by_cases hz : T 19 p = 0
    · have := w0 hz
      have := w2 (by omega)
      rw [if_pos hz, if_pos hz, if_pos (show 0 ≤ (p : Int) ∧ (p : Int) < ((192 : Nat) : Int) by omega), this.1, w32i (x := T 21 p) (by omega) (by omega), if_pos (by omega), hr 78 _ (by omega) (by omega)]
      obtain ⟨s, hs⟩ : ∃ s : Nat, T 21 p = s := ⟨(T 21 p).toNat, by omega⟩
      have w8 := W.1 s (by omega)
      rw [hs, Int.toNat_natCast, w8.1, w32i (x := T 18 s) (by omega) (by omega)]
      by_cases h2 : T 18 s = 0
      · rw [if_pos h2, if_pos h2]
      · rw [if_neg h2, if_neg h2]
        have := ih n (24 * s) (VP.str W (by omega) h2) (by omega) (by omega)
        rw [← this]
        congr 1 <;> omega
    · rw [if_neg hz, if_neg hz]
theorem e_follow {T r : St} (W : WT T) (hr : rt r T) {N : Nat} (hN : 100 ≤ N) {p : Nat} (hp : VP T p) : d_x8_followed N r (p : Int) = some (r, res T p) := e_followL W hr N 9 N p hp (by omega) (by omega)
