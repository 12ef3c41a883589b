theorem up_o {s : St} {a j b k : Nat} {x : Int} (h : ¬ (b = a ∧ k = j)) : up s a j x b k = s b k := if_neg h
def tkm (b : Nat → Int) (a e : Nat) : Int := if srt b a e = 1 ∧ kd b a (e - a) = -1 then 4 else srt b a e
/-- the model's TOKEN is TOKEN j -/
def TKM (r : St) (b : Nat → Int) (z j : Nat) : Prop := r 77 22 = (bgf b z j : Nat) ∧ (bgf b z j = z → r 77 21 = 0) ∧ (bgf b z j < z → r 77 21 = tkm b (bgf b z j) (te b z (bgf b z j)) ∧ (r 77 21 ≠ 4 → r 77 20 = (te b z (bgf b z j) : Nat)) ∧ (r 77 21 = 2 ∨ r 77 21 = 3 → r 77 23 = mng b (bgf b z j) (te b z (bgf b z j))))
def NF (r r' : St) : Prop := ∀ x k, ¬ (x = 77 ∧ 20 ≤ k ∧ k ≤ 23) → r' x k = r x k
theorem MB.nf {r r' : St} {b : Nat → Int} {z : Nat} (H : MB r b z) (f : NF r r') : MB r' b z := H.cong (f _ _ (by omega)) (fun k => f _ _ (by omega))
theorem m_95 {N : Nat} {b : Nat → Int} {z a e : Nat} (hae : a < e ∧ e ≤ z) (hl : 97 ≤ b a ∧ b a ≤ 122) : ∀ (f m p : Nat) (r : St), p + f = z → f < m → MB r b z → r 77 20 = p → r 77 22 = a → rn b z 1 p = e → One (d_x8_next_95L N m r) (fun r' _ => r' 77 20 = e ∧ r' 77 21 = (if kd b a (e - a) = -1 then 4 else 1) ∧ ∀ x k, ¬ (x = 77 ∧ (k = 20 ∨ k = 21)) → r' x k = r x k) := by
  have hkd : -1 ≤ kd b a (e - a) ∧ kd b a (e - a) ≤ 13 := by
    unfold kd
    have := fk_r (b := b) (a := a) (n := e - a) 13 1
    split
    · split <;> omega
    · omega
  have fin : ∀ (r : St), MB r b z → r 77 20 = e → r 77 22 = a → One (bI (d_x8_kindOf N r) fun s16 v17 => (if (w32 v17) = (-1) then d_x8_next_143 N s16 4 else d_x8_next_143 N s16 1)) (fun r' _ => r' 77 20 = e ∧ r' 77 21 = (if kd b a (e - a) = -1 then 4 else 1) ∧ ∀ x k, ¬ (x = 77 ∧ (k = 20 ∨ k = 21)) → r' x k = r x k) := by
    intro r H h20 h22
    rw [m_kof H h22 h20 hae hl, bI_some, w32i (x := kd b a (e - a)) (by omega) (by omega)]
    unfold d_x8_next_143
    by_cases q : kd b a (e - a) = -1
    · rw [if_pos q, if_pos q, bd_eq]
      exact One.ret ⟨by rw [up_nj (by decide)]; exact h20, up_same, fun x k h => up_o (by omega)⟩
    · rw [if_neg q, if_neg q, bd_eq]
      exact One.ret ⟨by rw [up_nj (by decide)]; exact h20, up_same, fun x k h => up_o (by omega)⟩
  intro f
  induction f with
  | zero =>
    intro m p r hp hm H h20 h22 hr
    obtain ⟨m, rfl⟩ : ∃ m', m = m' + 1 := ⟨m - 1, by omega⟩
    have hz := H.2.1
    have ep : p = e := by rw [← hr, rn_end (by omega)]
    show One (d_x8_next_95 N (d_x8_next_95L N m) r) _
    unfold d_x8_next_95
    rw [h20, m_byte H (by omega), bI_some, if_neg (by omega), inf (by unfold r32; omega) (by unfold r32; omega) (by unfold r32; omega) (by omega), bI_some, if_pos (by decide)]
    exact fin r H (by rw [h20, ep]) h22
  | succ f ih =>
    intro m p r hp hm H h20 h22 hr
    obtain ⟨m, rfl⟩ : ∃ m', m = m' + 1 := ⟨m - 1, by omega⟩
    have hz := H.2.1
    have g := (H.2.2 p (by omega)).2
    show One (d_x8_next_95 N (d_x8_next_95L N m) r) _
    unfold d_x8_next_95
    rw [h20, m_byte H (by omega), bI_some, if_pos (show p < z by omega)]
    by_cases q : so (b p) = 1
    · have q' := so_1.mp q
      rw [int (by unfold r32; omega) (by unfold r32; omega) (by unfold r32; omega) q', bI_some, if_neg (by decide), bd_eq, h20]
      have I := ih m (p + 1) (up r 77 20 ((p : Int) + 1)) (by omega) (by omega) (H.cong (up_nj (by decide)) (fun k => up_ne (by decide))) (by rw [up_same]; omega) (by rw [up_nj (by decide)]; exact h22) (by rw [← rn_step (by omega) q]; exact hr)
      exact I.mono (fun s v w => ⟨w.1, w.2.1, fun x k h => (w.2.2 x k h).trans (up_o (by omega))⟩)
    · have q' : ¬ (97 ≤ b p ∧ b p ≤ 122) := fun y => q (so_1.mpr y)
      rw [inf (by unfold r32; omega) (by unfold r32; omega) (by unfold r32; omega) q', bI_some, if_pos (by decide)]
      have ep : p = e := by rw [← hr, rn_stop q]
      exact fin r H (by rw [h20, ep]) h22
theorem m_170 {N : Nat} {b : Nat → Int} {z a e : Nat} (hae : a ≤ e ∧ e ≤ z) : ∀ (f m n : Nat) (r : St), a + n + f = z → f < m → MB r b z → r 77 20 = ((a + n : Nat) : Int) → r 77 23 = dv b a (min n 4) → rn b z 2 (a + n) = e → One (d_x8_next_170L N m r (n : Int)) (fun r' _ => r' 77 20 = e ∧ r' 77 21 = (if 4 < e - a then 4 else 2) ∧ r' 77 23 = dv b a (min (e - a) 4) ∧ NF r r' ∧ r' 77 22 = r 77 22) := by
  have fin : ∀ (r : St) (n : Nat), n ≤ 120 → a + n = e → MB r b z → r 77 20 = ((a + n : Nat) : Int) → r 77 23 = dv b a (min n 4) → One (if 4 < (w32 (n : Int)) then d_x8_next_253 N r 4 else d_x8_next_253 N r 2) (fun r' _ => r' 77 20 = e ∧ r' 77 21 = (if 4 < e - a then 4 else 2) ∧ r' 77 23 = dv b a (min (e - a) 4) ∧ NF r r' ∧ r' 77 22 = r 77 22) := by
    intro r n hn hne H h20 h23
    have en : e - a = n := by omega
    rw [w32i (x := (n : Int)) (by omega) (by omega), en]
    unfold d_x8_next_253
    by_cases q : 4 < n
    · rw [if_pos (by omega), if_pos q, bd_eq]
      exact One.ret ⟨by rw [up_nj (by decide), h20, hne], up_same, by rw [up_nj (by decide)]; exact h23, fun x k h => up_o (by omega), up_nj (by decide)⟩
    · rw [if_neg (by omega), if_neg q, bd_eq]
      exact One.ret ⟨by rw [up_nj (by decide), h20, hne], up_same, by rw [up_nj (by decide)]; exact h23, fun x k h => up_o (by omega), up_nj (by decide)⟩
  intro f
  induction f with
  | zero =>
    intro m n r hp hm H h20 h23 hr
    obtain ⟨m, rfl⟩ : ∃ m', m = m' + 1 := ⟨m - 1, by omega⟩
    have hz := H.2.1
    have ep : a + n = e := by rw [← hr, rn_end (by omega)]
    show One (d_x8_next_170 N (d_x8_next_170L N m) r (n : Int)) _
    unfold d_x8_next_170
    rw [h20, m_byte H (by omega), bI_some, if_neg (by omega), inf (by unfold r32; omega) (by unfold r32; omega) (by unfold r32; omega) (by omega), bI_some, if_pos (by decide)]
    exact fin r n (by omega) ep H h20 h23
  | succ f ih =>
    intro m n r hp hm H h20 h23 hr
    obtain ⟨m, rfl⟩ : ∃ m', m = m' + 1 := ⟨m - 1, by omega⟩
    have hz := H.2.1
    have g := (H.2.2 (a + n) (by omega)).2
    show One (d_x8_next_170 N (d_x8_next_170L N m) r (n : Int)) _
    unfold d_x8_next_170
    rw [h20, m_byte H (by omega), bI_some, if_pos (show a + n < z by omega)]
    by_cases q : so (b (a + n)) = 2
    · have q' := so_2.mp q
      rw [int (by unfold r32; omega) (by unfold r32; omega) (by unfold r32; omega) q', bI_some, if_neg (by decide), w32i (x := (n : Int)) (by omega) (by omega), h20, h23]
      have step : ∀ w : Int, w = dv b a (min (n + 1) 4) → One (d_x8_next_223 N (d_x8_next_170L N m) r (n : Int) w) (fun r' _ => r' 77 20 = e ∧ r' 77 21 = (if 4 < e - a then 4 else 2) ∧ r' 77 23 = dv b a (min (e - a) 4) ∧ NF r r' ∧ r' 77 22 = r 77 22) := by
        intro w hw
        unfold d_x8_next_223
        rw [bd_eq, bd_eq, bd_eq, up_nj (show (20 : Nat) ≠ 23 by decide), h20]
        have I := ih m (n + 1) (up (up r 77 23 w) 77 20 (((a + n : Nat) : Int) + 1)) (by omega) (by omega) (H.cong (by rw [up_nj (by decide), up_nj (by decide)]) (fun k => by rw [up_ne (by decide), up_ne (by decide)])) (by rw [up_same]; omega) (by rw [up_nj (by decide), up_same]; exact hw) (by rw [← hr, rn_step (by omega) q]; rfl)
        exact I.mono (fun s v w => ⟨w.1, w.2.1, w.2.2.1, fun x k h => (w.2.2.2.1 x k h).trans (by rw [up_o (by omega), up_o (by omega)]), w.2.2.2.2.trans (by rw [up_nj (by decide), up_nj (by decide)])⟩)
      by_cases h4 : n < 4
      · rw [if_pos (by omega), m_byte H (by omega), bI_some, if_pos (show a + n < z by omega)]
        refine step _ ?_
        rw [show min (n + 1) 4 = n + 1 by omega, show min n 4 = n by omega]
        show 10 * dv b a n + b (a + n) - 48 = dv b a n * 10 + b (a + n) - 48
        omega
      · rw [if_neg (by omega)]
        exact step _ (by rw [show min (n + 1) 4 = min n 4 by omega])
    · have q' : ¬ (48 ≤ b (a + n) ∧ b (a + n) ≤ 57) := fun y => q (so_2.mpr y)
      rw [inf (by unfold r32; omega) (by unfold r32; omega) (by unfold r32; omega) q', bI_some, if_pos (by decide)]
      have ep : a + n = e := by rw [← hr, rn_stop q]
      exact fin r n (by omega) ep H h20 h23
