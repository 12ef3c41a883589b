def nb (k : Int) : Prop := k = 1 ∨ k = 3 ∨ k = 4 ∨ k = 5 ∨ k = 8 ∨ k = 9 ∨ k = 12 ∨ k = 13
theorem k14 {k : Int} (h : 0 ≤ k ∧ k ≤ 13) : k = 0 ∨ k = 1 ∨ k = 2 ∨ k = 3 ∨ k = 4 ∨ k = 5 ∨ k = 6 ∨ k = 7 ∨ k = 8 ∨ k = 9 ∨ k = 10 ∨ k = 11 ∨ k = 12 ∨ k = 13 := by omega
theorem e_hn {N : Nat} {s : St} {k : Int} (h : 0 ≤ k ∧ k ≤ 13) : (nb k → d_x0_hasNumber N s k = some (s, 1)) ∧ (¬ nb k → d_x0_hasNumber N s k = some (s, 0)) := by
  unfold nb
  rcases k14 h with e | e | e | e | e | e | e | e | e | e | e | e | e | e <;> subst e <;> refine ⟨fun z => ?_, fun z => ?_⟩ <;> first | rfl | (exfalso; omega)
theorem e_in8 {N : Nat} {s : St} {k : Int} (h : 0 ≤ k ∧ k ≤ 13) : (nb k → d_x8_isNumbered N s k = some (s, 1)) ∧ (¬ nb k → d_x8_isNumbered N s k = some (s, 0)) := by
  unfold nb
  rcases k14 h with e | e | e | e | e | e | e | e | e | e | e | e | e | e <;> subst e <;> refine ⟨fun z => ?_, fun z => ?_⟩ <;> first | rfl | (exfalso; omega)
/-- number of rows -/
def nro (k : Int) : Int := if k = 0 ∨ k = 1 ∨ k = 2 then 0 else if k = 6 ∨ k = 7 then 2 else 1
theorem e_rows {N : Nat} {s : St} {k : Int} (h : 0 ≤ k ∧ k ≤ 13) : d_x0_rows N s k = some (s, nro k) := by
  rcases k14 h with e | e | e | e | e | e | e | e | e | e | e | e | e | e <;> subst e <;> rfl
theorem e_allow {N : Nat} {s : St} {k v : Int} (h : 0 ≤ k ∧ k ≤ 13) (hv : r32 v) : d_x0_allows N s k v = some (s, if (k = 13 → 1 ≤ v ∧ v ≤ 9) ∧ (k = 8 ∨ k = 9 → 0 ≤ v) then 1 else 0) := by
  unfold d_x0_allows d_x0_allows_39
  rw [w32i (x := k) (by omega) (by omega), w32r hv]
  by_cases h13 : k = 13
  · rw [if_pos h13]
    by_cases h1 : v < 1
    · rw [if_pos h1, if_neg (by omega)]
    · rw [if_neg h1]
      by_cases h9 : 9 < v
      · rw [if_pos h9, if_neg (by omega)]
      · rw [if_neg h9, if_pos (by omega)]
  · rw [if_neg h13]
    by_cases h1 : v < 0
    · rw [if_pos h1]
      by_cases h8 : k = 8
      · rw [if_pos h8, if_neg (by omega)]
      · rw [if_neg h8]
        by_cases h9 : k = 9
        · rw [if_pos h9, if_neg (by omega)]
        · rw [if_neg h9, if_pos (by omega)]
    · rw [if_neg h1, if_pos (by omega)]
theorem e_hasP {N : Nat} {c : St} {s : Nat} {k : Int} (hs : s < 8) (hk : r32 k) (g : 0 ≤ c 18 s ∧ c 18 s ≤ 24) : d_x7_hasPart N c (s : Int) k = some (c, if 0 ≤ k ∧ k < c 18 s then 1 else 0) := by
  unfold d_x7_hasPart
  rw [S7t (by unfold r32; omega) (by omega), bI_some, w32_1, if_neg (by decide), w32r hk, w32i (x := (s : Int)) (by omega) (by omega), Int.toNat_natCast, w32i (x := c 18 s) (by omega) (by omega)]
  by_cases h1 : k < 0
  · rw [if_pos h1, if_neg (by omega)]
  · rw [if_neg h1, if_pos (by omega)]
    by_cases h2 : k < c 18 s
    · rw [if_pos h2, if_pos (by omega)]
    · rw [if_neg h2, if_neg (by omega)]
theorem e_hasPf {N : Nat} {c : St} {a k : Int} (ha : r32 a) (hs : ¬ (0 ≤ a ∧ a < 8)) : d_x7_hasPart N c a k = some (c, 0) := by
  unfold d_x7_hasPart
  rw [S7f ha hs, bI_some, w32_0, if_pos rfl]
theorem e_isP {N : Nat} {r : St} {s : Nat} {k : Int} (hs : s < 8) (hk : r32 k) (g : 0 ≤ r 78 s ∧ r 78 s ≤ 24) : d_x8_isPart N r (s : Int) k = some (r, if 0 ≤ k ∧ k < r 78 s then 1 else 0) := by
  unfold d_x8_isPart
  rw [w32i (x := (s : Int)) (by omega) (by omega), Int.toNat_natCast, if_pos (by omega), w32i (x := r 78 s - 1) (by omega) (by omega), w32r hk, e_in32 N r hk (by unfold r32; omega) (by unfold r32; omega), bI_some, bz]
  by_cases h : 0 ≤ k ∧ k < r 78 s
  · rw [if_pos h, if_pos (by omega)]
  · rw [if_neg h, if_neg (by omega)]
theorem i32_self (x : Int32) : r32 x.toInt := by
  have h : x.toInt = w32 x.toInt := by rw [← i32w, Int32.ofInt_toInt]
  rw [h]
  exact w32_rng _
theorem or32_r (x y : Int) : r32 (or32 x y) := i32_self _
theorem or32_0 {x : Int} (h : r32 x) : or32 x 0 = x := by
  unfold or32
  rw [show Int32.ofInt 0 = 0 from rfl, Int32.or_zero, i32w, w32r h]
theorem shl_0 {j : Nat} (h : j < 8) : shl32 0 (j : Int) = 0 := by
  have : j = 0 ∨ j = 1 ∨ j = 2 ∨ j = 3 ∨ j = 4 ∨ j = 5 ∨ j = 6 ∨ j = 7 := by omega
  rcases this with e | e | e | e | e | e | e | e <;> subst e <;> rfl
/-- the facts of one part -/
theorem RG.wf {c r : St} (H : RG c r) {p : Nat} (hp : p < 192) (hv : ((p % 24 : Nat) : Int) < c 18 (p / 24)) : WFp (tx c r) p := H.2.1.1.1.2 p ⟨hp, by rw [← tx_ct c r 18 _ (by omega) (by omega)]; exact hv⟩
theorem RG.kd {c r : St} (H : RG c r) {p : Nat} (hp : p < 192) (hv : ((p % 24 : Nat) : Int) < c 18 (p / 24)) : r 79 p = c 19 p ∧ r 80 p = c 20 p ∧ r 81 p = c 23 p ∧ r 84 p = c 24 p ∧ 0 ≤ c 19 p ∧ c 19 p ≤ 13 ∧ 1 ≤ c 23 p ∧ c 23 p ≤ 24 := by
  have w := (H.wf hp hv).1
  rw [← tx_ct c r 19 p (by omega) (by omega), ← tx_ct c r 20 p (by omega) (by omega), ← tx_ct c r 23 p (by omega) (by omega), ← tx_ct c r 24 p (by omega) (by omega), ← tx_rt c r 79 p (by omega) (by omega), ← tx_rt c r 80 p (by omega) (by omega), ← tx_rt c r 81 p (by omega) (by omega), ← tx_rt c r 84 p (by omega) (by omega)] at w
  exact w
theorem RG.nm {c r : St} (H : RG c r) {p : Nat} (hp : p < 192) (hv : ((p % 24 : Nat) : Int) < c 18 (p / 24)) (h : c 19 p ≠ 2) : r 82 p = c 21 p ∧ -9999 ≤ c 21 p ∧ c 21 p ≤ 9999 := by
  have w := (H.wf hp hv).2.1
  rw [← tx_ct c r 19 p (by omega) (by omega), ← tx_ct c r 21 p (by omega) (by omega), ← tx_rt c r 82 p (by omega) (by omega)] at w
  exact w h
theorem sk {s k : Nat} (hk : k < 24) : (24 * s + k) % 24 = k ∧ (24 * s + k) / 24 = s := by omega
