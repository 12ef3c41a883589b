/-! printing: bytes laid behind one another -/
def laC (c : St) (n : Nat) (L : List Int) : St := fun a k => if a = 15 ∧ k = 1 then (n : Int) + L.length else if a = 16 ∧ n ≤ k ∧ k < n + L.length then L.getD (k - n) 0 else c a k
def laM (r : St) (n : Nat) (L : List Int) : St := fun a k => if a = 77 ∧ k = 35 then (n : Int) + L.length else if a = 102 ∧ n ≤ k ∧ k < n + L.length then L.getD (k - n) 0 else r a k
theorem laC_n {c : St} {n : Nat} {L : List Int} : laC c n L 15 1 = ((n + L.length : Nat) : Int) := by
  unfold laC
  rw [if_pos ⟨rfl, rfl⟩]
  omega
theorem laM_n {r : St} {n : Nat} {L : List Int} : laM r n L 77 35 = ((n + L.length : Nat) : Int) := by
  unfold laM
  rw [if_pos ⟨rfl, rfl⟩]
  omega
theorem laC_o {c : St} {n a k : Nat} {L : List Int} (h1 : a ≠ 15) (h2 : a ≠ 16) : laC c n L a k = c a k := by
  unfold laC
  rw [if_neg (by omega), if_neg (by omega)]
theorem laM_o {r : St} {n a k : Nat} {L : List Int} (h1 : ¬ (a = 77 ∧ k = 35)) (h2 : a ≠ 102) : laM r n L a k = r a k := by
  unfold laM
  rw [if_neg h1, if_neg (by omega)]
theorem laC_nil {c : St} {n : Nat} (h : c 15 1 = n) : laC c n [] = c := by
  funext a k
  unfold laC
  by_cases e : a = 15 ∧ k = 1
  · obtain ⟨rfl, rfl⟩ := e
    rw [if_pos ⟨rfl, rfl⟩, h]
    show (n : Int) + ((0 : Nat) : Int) = n
    omega
  · rw [if_neg e, if_neg (by rintro ⟨_, h1, h2⟩; simp at h2; omega)]
theorem laM_nil {r : St} {n : Nat} (h : r 77 35 = n) : laM r n [] = r := by
  funext a k
  unfold laM
  by_cases e : a = 77 ∧ k = 35
  · obtain ⟨rfl, rfl⟩ := e
    rw [if_pos ⟨rfl, rfl⟩, h]
    show (n : Int) + ((0 : Nat) : Int) = n
    omega
  · rw [if_neg e, if_neg (by rintro ⟨_, h1, h2⟩; simp at h2; omega)]
theorem gd_l {L K : List Int} {i : Nat} (h : i < L.length) : (L ++ K).getD i 0 = L.getD i 0 := by rw [List.getD_eq_getElem?_getD, List.getD_eq_getElem?_getD, List.getElem?_append_left h]
theorem gd_r {L K : List Int} {i : Nat} (h : L.length ≤ i) : (L ++ K).getD i 0 = K.getD (i - L.length) 0 := by rw [List.getD_eq_getElem?_getD, List.getD_eq_getElem?_getD, List.getElem?_append_right h]
theorem laC_app {c : St} {n : Nat} {L K : List Int} : laC (laC c n L) (n + L.length) K = laC c n (L ++ K) := by
  funext a k
  unfold laC
  rw [List.length_append]
  by_cases e : a = 15 ∧ k = 1
  · rw [if_pos e, if_pos e]
    omega
  · rw [if_neg e, if_neg e, if_neg e]
    by_cases e1 : a = 16 ∧ n + L.length ≤ k ∧ k < n + L.length + K.length
    · rw [if_pos e1, if_pos (by omega), gd_r (by omega)]
      congr 1
      omega
    · rw [if_neg e1]
      by_cases e2 : a = 16 ∧ n ≤ k ∧ k < n + L.length
      · rw [if_pos e2, if_pos (by omega), gd_l (by omega)]
      · rw [if_neg e2, if_neg (by omega)]
theorem laM_app {r : St} {n : Nat} {L K : List Int} : laM (laM r n L) (n + L.length) K = laM r n (L ++ K) := by
  funext a k
  unfold laM
  rw [List.length_append]
  by_cases e : a = 77 ∧ k = 35
  · rw [if_pos e, if_pos e]
    omega
  · rw [if_neg e, if_neg e, if_neg e]
    by_cases e1 : a = 102 ∧ n + L.length ≤ k ∧ k < n + L.length + K.length
    · rw [if_pos e1, if_pos (by omega), gd_r (by omega)]
      congr 1
      omega
    · rw [if_neg e1]
      by_cases e2 : a = 102 ∧ n ≤ k ∧ k < n + L.length
      · rw [if_pos e2, if_pos (by omega), gd_l (by omega)]
      · rw [if_neg e2, if_neg (by omega)]
theorem e_wb {N n : Nat} {c : St} {b : Int} (h : c 15 1 = n) (hn : n < 1024) : d_x1_writeByte N c b = some (laC c n [b], 0) := by
  unfold d_x1_writeByte
  rw [h, w32i (x := (n : Int)) (by omega) (by omega), if_pos (by omega), if_pos (by omega), bd_eq, bd_eq, Int.toNat_natCast, up_ne (a := 16) (b := 15) (by omega), h]
  congr 2
  funext a k
  unfold laC
  rw [up_app]
  by_cases e : a = 15 ∧ k = 1
  · rw [if_pos e, if_pos e]; rfl
  · rw [if_neg e, if_neg e, up_app]
    by_cases e1 : a = 16 ∧ k = n
    · rw [if_pos e1, if_pos (by simp; omega), show k - n = 0 by omega]
      rfl
    · rw [if_neg e1, if_neg (by simp; omega)]
theorem e_pb {N n : Nat} {r : St} {b : Int} (h : r 77 35 = n) (hn : n < 4096) : d_x8_puts N r b = some (laM r n [b], 0) := by
  unfold d_x8_puts
  rw [h, w32i (x := (n : Int)) (by omega) (by omega), if_pos (by omega), bd_eq, bd_eq, Int.toNat_natCast, up_ne (a := 102) (b := 77) (by omega), h]
  congr 2
  funext a k
  unfold laM
  rw [up_app]
  by_cases e : a = 77 ∧ k = 35
  · rw [if_pos e, if_pos e]; rfl
  · rw [if_neg e, if_neg e, up_app]
    by_cases e1 : a = 102 ∧ k = n
    · rw [if_pos e1, if_pos (by simp; omega), show k - n = 0 by omega]
      rfl
    · rw [if_neg e1, if_neg (by simp; omega)]
/-- a blank ahead, but at the beginning -/
def bk (n : Nat) : List Int := if n = 0 then [] else [32]
theorem bk_len (n : Nat) : (bk n).length ≤ 1 := by
  unfold bk
  split <;> simp
theorem e_wbl {N n : Nat} {c : St} (h : c 15 1 = n) (hn : n < 1024) : d_x1_writeBlank N c = some (laC c n (bk n), 0) := by
  unfold d_x1_writeBlank bk
  rw [h, w32i (x := (n : Int)) (by omega) (by omega)]
  by_cases e : n = 0
  · rw [if_neg (by omega), if_pos e, laC_nil h]
  · rw [if_pos (by omega), if_neg e, e_wb h hn, bV_some]
theorem e_gap {N n : Nat} {r : St} (h : r 77 35 = n) (hn : n < 4096) : d_x8_gap N r = some (laM r n (bk n), 0) := by
  unfold d_x8_gap bk
  rw [h, w32i (x := (n : Int)) (by omega) (by omega)]
  by_cases e : n = 0
  · rw [if_neg (by omega), if_pos e, laM_nil h]
  · rw [if_pos (by omega), if_neg e, e_pb h hn, bV_some]
/-- digits from place j - 1 down to 0 -/
def ds (a : Nat) : Nat → List Int
  | 0 => []
  | j + 1 => (48 + ((a / 10 ^ j % 10 : Nat) : Int)) :: ds a j
theorem ds_len (a : Nat) : ∀ j, (ds a j).length = j := by
  intro j
  induction j with
  | zero => rfl
  | succ j ih => show (ds a j).length + 1 = j + 1; rw [ih]
theorem ds_get (a : Nat) : ∀ j i, i < j → (ds a j).getD i 0 = 48 + ((a / 10 ^ (j - 1 - i) % 10 : Nat) : Int) := by
  intro j
  induction j with
  | zero => intro i h; omega
  | succ j ih =>
    intro i h
    cases i with
    | zero => rfl
    | succ i =>
      show (ds a j).getD i 0 = _
      rw [ih i (by omega), show j + 1 - 1 - (i + 1) = j - 1 - i by omega]
/-- how many digits -/
def nd : Nat → Nat → Nat
  | 0, _ => 1
  | f + 1, a => if a < 10 then 1 else nd f (a / 10) + 1
theorem nd_pos : ∀ f a, 1 ≤ nd f a := by
  intro f
  induction f with
  | zero => intro a; exact Nat.le_refl 1
  | succ f ih =>
    intro a
    show 1 ≤ (if a < 10 then 1 else nd f (a / 10) + 1)
    split <;> omega
theorem nd_spec : ∀ f a, a < 10 ^ (f + 1) → a < 10 ^ nd f a ∧ (2 ≤ nd f a → 10 ^ (nd f a - 1) ≤ a) ∧ nd f a ≤ f + 1 := by
  intro f
  induction f with
  | zero => intro a h; exact ⟨h, fun z => absurd (show 2 ≤ 1 from z) (by decide), Nat.le_refl 1⟩
  | succ f ih =>
    intro a h
    show a < 10 ^ (if a < 10 then 1 else nd f (a / 10) + 1) ∧ (2 ≤ (if a < 10 then 1 else nd f (a / 10) + 1) → 10 ^ ((if a < 10 then 1 else nd f (a / 10) + 1) - 1) ≤ a) ∧ (if a < 10 then 1 else nd f (a / 10) + 1) ≤ f + 1 + 1
    by_cases e : a < 10
    · rw [if_pos e]
      exact ⟨by omega, fun z => by omega, by omega⟩
    · rw [if_neg e]
      have h1 : a / 10 < 10 ^ (f + 1) := by rw [Nat.pow_succ] at h; omega
      obtain ⟨i1, i2, i3⟩ := ih (a / 10) h1
      refine ⟨by rw [Nat.pow_succ]; omega, fun _ => ?_, by omega⟩
      rw [Nat.add_sub_cancel]
      have hp := nd_pos f (a / 10)
      by_cases e2 : nd f (a / 10) = 1
      · rw [e2]; omega
      · have i2 := i2 (by omega)
        have e3 : 10 ^ nd f (a / 10) = 10 * 10 ^ (nd f (a / 10) - 1) := by
          rw [← Nat.pow_succ']
          congr 1
          omega
        rw [e3]
        omega
theorem pow_le18 {j : Nat} (h : j ≤ 18) : 10 ^ j ≤ 1000000000000000000 ∧ 1 ≤ 10 ^ j := ⟨by
  have := Nat.pow_le_pow_right (show 0 < 10 by decide) h
  simpa using this, by
  have := Nat.pow_le_pow_right (show 0 < 10 by decide) (Nat.zero_le j)
  simpa using this⟩
theorem tdn {a b : Nat} : Int.tdiv (-(a : Int)) (b : Int) = -((a / b : Nat) : Int) := by
  rw [Int.neg_tdiv]
  rfl
theorem tmn {a b : Nat} : Int.tmod (-(a : Int)) (b : Int) = -((a % b : Nat) : Int) := by
  rw [Int.neg_tmod]
  rfl
theorem w64i {x : Int} (h1 : -9223372036854775808 ≤ x) (h2 : x ≤ 9223372036854775807) : w64 x = x := w64_id ⟨h1, h2⟩
/-- the class's digits -/
theorem e_wn71 {N : Nat} {a : Nat} (ha : a ≤ 9223372036854775808) {x : Int} (hx : w64 x = -(a : Int)) : ∀ (j m n : Nat) (c : St), j ≤ 18 → j + 1 < m → c 15 1 = n → n + j < 1024 → d_x1_writeNum_71L N m c x ((10 ^ j : Nat) : Int) = some (laC c n (ds a (j + 1)), 0) := by
  intro j
  induction j with
  | zero =>
    intro m n c hj hm hc hn
    obtain ⟨m, rfl⟩ : ∃ m', m = m' + 2 := ⟨m - 2, by omega⟩
    show d_x1_writeNum_71 N (d_x1_writeNum_71L N (m + 1)) c x ((1 : Nat) : Int) = _
    unfold d_x1_writeNum_71
    have d1 : Int.tdiv (-(a : Int)) ((1 : Nat) : Int) = -((a / 1 : Nat) : Int) := tdn
    rw [w64i (x := ((1 : Nat) : Int)) (by omega) (by omega), if_pos (by omega), if_neg (by omega), if_neg (show ¬ (10 : Nat) = 0 by decide), hx, d1, Nat.div_one, w64i (x := -(a : Int)) (by omega) (by omega), show Int.tmod (-(a : Int)) 10 = -((a % 10 : Nat) : Int) from tmn, e_wb hc (by omega), bV_some, if_neg (show ¬ (10 : Nat) = 0 by decide), bd_eq, show Int.tdiv ((1 : Nat) : Int) 10 = 0 from rfl]
    show d_x1_writeNum_71 N (d_x1_writeNum_71L N m) _ x 0 = _
    unfold d_x1_writeNum_71
    rw [w64_0, if_neg (by decide)]
    show some (laC c n [48 - -((a % 10 : Nat) : Int)], 0) = some (laC c n [48 + ((a / 10 ^ 0 % 10 : Nat) : Int)], 0)
    rw [Nat.pow_zero, Nat.div_one, Int.sub_neg]
  | succ j ih =>
    intro m n c hj hm hc hn
    obtain ⟨m, rfl⟩ : ∃ m', m = m' + 1 := ⟨m - 1, by omega⟩
    have hp := pow_le18 hj
    have hp2 := pow_le18 (j := j) (by omega)
    show d_x1_writeNum_71 N (d_x1_writeNum_71L N m) c x _ = _
    unfold d_x1_writeNum_71
    have d1 : Int.tdiv (-(a : Int)) ((10 ^ (j + 1) : Nat) : Int) = -((a / 10 ^ (j + 1) : Nat) : Int) := tdn
    have d2 : Int.tdiv ((10 ^ (j + 1) : Nat) : Int) 10 = ((10 ^ j : Nat) : Int) := by
      show (((10 ^ (j + 1)) / 10 : Nat) : Int) = _
      rw [Nat.pow_succ, Nat.mul_div_cancel _ (by decide)]
    have hle : a / 10 ^ (j + 1) ≤ a := Nat.div_le_self _ _
    have hwq : w64 (-((a / 10 ^ (j + 1) : Nat) : Int)) = -((a / 10 ^ (j + 1) : Nat) : Int) := by
      generalize a / 10 ^ (j + 1) = q at hle
      exact w64i (by omega) (by omega)
    rw [w64i (x := ((10 ^ (j + 1) : Nat) : Int)) (by omega) (by omega), if_pos (by omega), if_neg (by omega), if_neg (show ¬ (10 : Nat) = 0 by decide), hx, d1, hwq, show Int.tmod (-((a / 10 ^ (j + 1) : Nat) : Int)) 10 = -((a / 10 ^ (j + 1) % 10 : Nat) : Int) from tmn, e_wb hc (by omega), bV_some, if_neg (show ¬ (10 : Nat) = 0 by decide), bd_eq, d2, Int.sub_neg]
    rw [ih m (n + 1) _ (by omega) (by omega) laC_n (by omega)]
    have := laC_app (c := c) (n := n) (L := [48 + ((a / 10 ^ (j + 1) % 10 : Nat) : Int)]) (K := ds a (j + 1))
    exact congrArg (fun z => some (z, (0 : Int))) this
theorem e_wn39 {N : Nat} (hN : 100 ≤ N) {a L : Nat} (ha : a ≤ 9223372036854775808) (h1 : a < 10 ^ L) (h2 : 2 ≤ L → 10 ^ (L - 1) ≤ a) (hL : 1 ≤ L ∧ L ≤ 19) {x : Int} (hx : w64 x = -(a : Int)) {n : Nat} {c : St} (hc : c 15 1 = n) (hn : n + 20 < 1024) : ∀ (k m j : Nat), j + k + 1 = L → k < m → d_x1_writeNum_39L N m c x ((10 ^ j : Nat) : Int) (((j + 1 : Nat)) : Int) = some (laC c n (ds a L), 0) := by
  intro k
  induction k with
  | zero =>
    intro m j hj hm
    obtain ⟨m, rfl⟩ : ∃ m', m = m' + 1 := ⟨m - 1, by omega⟩
    have hp := pow_le18 (j := j) (by omega)
    have e71 : d_x1_writeNum_71L N N c x ((10 ^ j : Nat) : Int) = some (laC c n (ds a L), 0) := by
      rw [e_wn71 ha hx j N n c (by omega) (by omega) hc (by omega), show j + 1 = L by omega]
    show d_x1_writeNum_39 N (d_x1_writeNum_39L N m) c x _ _ = _
    unfold d_x1_writeNum_39
    have d1 : Int.tdiv (-(a : Int)) ((10 ^ j : Nat) : Int) = -((a / 10 ^ j : Nat) : Int) := tdn
    have hle : a / 10 ^ j ≤ a := Nat.div_le_self _ _
    have hlt : a / 10 ^ j < 10 := by
      have hj' : L = j.succ := by omega
      rw [Nat.div_lt_iff_lt_mul (by omega), Nat.mul_comm, ← Nat.pow_succ, ← hj']
      exact h1
    have hwq : w64 (-((a / 10 ^ j : Nat) : Int)) = -((a / 10 ^ j : Nat) : Int) ∧ -10 < -((a / 10 ^ j : Nat) : Int) := by
      generalize a / 10 ^ j = q at hle hlt
      exact ⟨w64i (by omega) (by omega), by omega⟩
    rw [w32i (x := ((j + 1 : Nat) : Int)) (by omega) (by omega), w64i (x := ((10 ^ j : Nat) : Int)) (by omega) (by omega), hx, d1, hwq.1]
    by_cases e : ((j + 1 : Nat) : Int) < 19
    · rw [if_pos e, if_neg (by omega), if_pos hwq.2, e71]
    · rw [if_neg e, e71]
  | succ k ih =>
    intro m j hj hm
    obtain ⟨m, rfl⟩ : ∃ m', m = m' + 1 := ⟨m - 1, by omega⟩
    have hp := pow_le18 (j := j) (by omega)
    show d_x1_writeNum_39 N (d_x1_writeNum_39L N m) c x _ _ = _
    unfold d_x1_writeNum_39
    have d1 : Int.tdiv (-(a : Int)) ((10 ^ j : Nat) : Int) = -((a / 10 ^ j : Nat) : Int) := tdn
    have hle : a / 10 ^ j ≤ a := Nat.div_le_self _ _
    have hge : 10 ≤ a / 10 ^ j := by
      rw [Nat.le_div_iff_mul_le (by omega), Nat.mul_comm, ← Nat.pow_succ]
      exact Nat.le_trans (Nat.pow_le_pow_right (by decide) (by omega)) (h2 (by omega))
    have e10 : ((10 ^ j : Nat) : Int) * 10 = ((10 ^ (j + 1) : Nat) : Int) := by
      rw [Nat.pow_succ]
      omega
    have hwq : w64 (-((a / 10 ^ j : Nat) : Int)) = -((a / 10 ^ j : Nat) : Int) ∧ ¬ -10 < -((a / 10 ^ j : Nat) : Int) := by
      generalize a / 10 ^ j = q at hle hge
      exact ⟨w64i (by omega) (by omega), by omega⟩
    rw [w32i (x := ((j + 1 : Nat) : Int)) (by omega) (by omega), w64i (x := ((10 ^ j : Nat) : Int)) (by omega) (by omega), hx, d1, hwq.1, if_pos (by omega), if_neg (by omega), if_neg hwq.2, bd_eq, bd_eq, e10]
    exact ih m (j + 1) (by omega) (by omega)
