/-! one part read: frames -/
def FCr (x y : Nat) (c c' : St) : Prop := ∀ a k, ¬ (a = 1 ∧ (k = 6 ∨ k = 7)) → ¬ (4 ≤ a ∧ a ≤ 9 ∧ x ≤ k ∧ k < y) → ¬ (a = 10 ∧ 8 * x ≤ k ∧ k < 8 * y) → c' a k = c a k
def FMr (x y : Nat) (r r' : St) : Prop := ∀ a k, ¬ (a = 77 ∧ 20 ≤ k ∧ k ≤ 26) → ¬ (95 ≤ a ∧ a ≤ 100 ∧ x ≤ k ∧ k < y) → ¬ (a = 101 ∧ 8 * x ≤ k ∧ k < 8 * y) → r' a k = r a k
theorem FCr.refl {x y : Nat} {c : St} : FCr x y c c := fun _ _ _ _ _ => rfl
theorem FMr.refl {x y : Nat} {c : St} : FMr x y c c := fun _ _ _ _ _ => rfl
theorem FCr.trans {x y w z : Nat} {a b c : St} (h : FCr x y a b) (g : FCr w z b c) (hx : x ≤ w) (hy : y ≤ z) (hxy : w ≤ y) : FCr x z a c := fun i k p q s => (g i k p (by omega) (by omega)).trans (h i k p (by omega) (by omega))
theorem FMr.trans {x y w z : Nat} {a b c : St} (h : FMr x y a b) (g : FMr w z b c) (hx : x ≤ w) (hy : y ≤ z) (hxy : w ≤ y) : FMr x z a c := fun i k p q s => (g i k p (by omega) (by omega)).trans (h i k p (by omega) (by omega))
theorem FC.fr {x y : Nat} {a b : St} (h : FC a b) : FCr x y a b := fun i k p _ _ => h i k p
theorem FM.fr {x y : Nat} {a b : St} (h : FM a b) : FMr x y a b := fun i k p _ _ => h i k (by omega)
theorem FC2.fr {x : Nat} {a b : St} (h : FC2 x a b) : FCr x (x + 1) a b := fun i k p q s => h i k p (by omega) (by omega)
theorem FM2.fr {x : Nat} {a b : St} (h : FM2 x a b) : FMr x (x + 1) a b := fun i k p q s => h i k (by omega) (by omega) (by omega)
theorem FCr.up {x a : Nat} {c c' : St} {v : Int} (h : FCr x (x + 1) c c') (ha : 4 ≤ a ∧ a ≤ 9) : FCr x (x + 1) c (up c' a x v) := fun i k p q s => (up_o (by omega)).trans (h i k p q s)
theorem FMr.up {x a : Nat} {c c' : St} {v : Int} (h : FMr x (x + 1) c c') (ha : 95 ≤ a ∧ a ≤ 100) : FMr x (x + 1) c (up c' a x v) := fun i k p q s => (up_o (by omega)).trans (h i k p q s)
theorem RD.upc {c r : St} {b : Nat → Int} {z n j a x : Nat} {v : Int} (H : RD c r b z n j) (ha : 4 ≤ a ∧ a ≤ 9) : RD (up c a x v) r b z n j := H.cong (fun i k h => up_ne (by omega)) (fun _ _ _ => rfl)
theorem RD.upr {c r : St} {b : Nat → Int} {z n j a x : Nat} {v : Int} (H : RD c r b z n j) (ha : 95 ≤ a ∧ a ≤ 100) : RD c (up r a x v) b z n j := H.cong (fun _ _ _ => rfl) (fun i k h => up_ne (by omega))
theorem gd.upc {c r : St} {b : Nat → Int} {z j a x : Nat} {v : Int} (H : gd c r b z j) (ha : 4 ≤ a ∧ a ≤ 9) : gd (up c a x v) r b z j := H.cong (fun k => up_ne (by omega)) (fun _ => rfl)
theorem gd.upr {c r : St} {b : Nat → Int} {z j a x : Nat} {v : Int} (H : gd c r b z j) (ha : 95 ≤ a ∧ a ≤ 100) : gd c (up r a x v) b z j := H.cong (fun _ => rfl) (fun k => up_ne (by omega))
theorem bad.upc {c r : St} {a x : Nat} {v : Int} (H : bad c r) (ha : 4 ≤ a ∧ a ≤ 9) : bad (up c a x v) r := H.cong (fun k => up_ne (by omega)) (fun _ => rfl)
theorem bad.upr {c r : St} {a x : Nat} {v : Int} (H : bad c r) (ha : 95 ≤ a ∧ a ≤ 100) : bad c (up r a x v) := H.cong (fun _ => rfl) (fun k => up_ne (by omega))
/-! the model's row behind its word -/
theorem q149n {N x : Nat} (hx : x < 24) {g : St → Option Rs} {s : St} {k v : Int} (hk : 0 ≤ k ∧ k ≤ 13) (h : s 77 24 = 1 ∨ ¬ (k = 1 ∨ k = 3 ∨ k = 4 ∨ k = 5 ∨ k = 12)) : d_x8_row_149 N g s (x : Int) k v (x : Int) = d_x8_row_193 N g (up s 96 x v) (x : Int) k := by
  unfold d_x8_row_149
  rw [w32i (x := (x : Int)) (by omega) (by omega), if_pos (by omega), bd_eq, Int.toNat_natCast, up_ne (show (77 : Nat) ≠ 96 by decide), w32i (x := k) (by omega) (by omega)]
  rcases h with h | h
  · rw [h, if_neg (by decide)]
  · rw [if_neg (show ¬ k = 1 by omega), if_neg (show ¬ k = 3 by omega), if_neg (show ¬ k = 4 by omega), if_neg (show ¬ k = 5 by omega), if_neg (show ¬ k = 12 by omega)]
    split <;> rfl
theorem q149y {N x : Nat} (hx : x < 24) {g : St → Option Rs} {s : St} {k v : Int} (h0 : s 77 24 = 0) (h : k = 1 ∨ k = 3 ∨ k = 4 ∨ k = 5 ∨ k = 12) : d_x8_row_149 N g s (x : Int) k v (x : Int) = d_x8_row_183 N g (up s 96 x v) (x : Int) k := by
  unfold d_x8_row_149
  rw [w32i (x := (x : Int)) (by omega) (by omega), if_pos (by omega), bd_eq, Int.toNat_natCast, up_ne (show (77 : Nat) ≠ 96 by decide), h0, if_pos w32_0, w32i (x := k) (by omega) (by omega)]
  rcases h with h | h | h | h | h <;> subst h <;> rfl
theorem q183 {N x : Nat} (hx : x < 24) {g : St → Option Rs} {s s' : St} {k w : Int} (h : d_x8_num N s = some (s', w)) : d_x8_row_183 N g s (x : Int) k = d_x8_row_193 N g (up s' 98 x w) (x : Int) k := by
  unfold d_x8_row_183
  rw [h, bI_some, w32i (x := (x : Int)) (by omega) (by omega), if_pos (by omega), bd_eq, Int.toNat_natCast]
theorem q193n {N x : Nat} {g : St → Option Rs} {s : St} {k : Int} (hk : 0 ≤ k ∧ k ≤ 13) (h : s 77 24 = 1 ∨ ¬ (k = 8 ∨ k = 9 ∨ k = 13)) : d_x8_row_193 N g s (x : Int) k = d_x8_row_253 N g s (x : Int) k := by
  unfold d_x8_row_193
  rw [w32i (x := k) (by omega) (by omega)]
  rcases h with h | h
  · rw [h, if_neg (by decide)]
  · rw [if_neg (show ¬ k = 8 by omega), if_neg (show ¬ k = 9 by omega), if_neg (show ¬ k = 13 by omega)]
    split <;> rfl
theorem q193d {N x : Nat} (hx : x < 24) {g : St → Option Rs} {s s' : St} {k w : Int} (h0 : s 77 24 = 0) (hk : k = 8 ∨ k = 9) (h : d_x8_plain N s 0 9999 = some (s', w)) : d_x8_row_193 N g s (x : Int) k = d_x8_row_253 N g (up s' 98 x w) (x : Int) k := by
  have e : d_x8_row_249 N g s (x : Int) k 9999 0 (x : Int) = d_x8_row_253 N g (up s' 98 x w) (x : Int) k := by
    unfold d_x8_row_249
    rw [h, bI_some, w32i (x := (x : Int)) (by omega) (by omega), if_pos (by omega), bd_eq, Int.toNat_natCast]
  rw [← e]
  unfold d_x8_row_193 d_x8_row_218 d_x8_row_235
  rw [h0, if_pos w32_0]
  rcases hk with hk | hk <;> subst hk <;> rfl
theorem q193c {N x : Nat} (hx : x < 24) {g : St → Option Rs} {s s' : St} {w : Int} (h0 : s 77 24 = 0) (h : d_x8_plain N s 1 9 = some (s', w)) : d_x8_row_193 N g s (x : Int) 13 = d_x8_row_253 N g (up s' 98 x w) (x : Int) 13 := by
  have e : d_x8_row_249 N g s (x : Int) 13 9 1 (x : Int) = d_x8_row_253 N g (up s' 98 x w) (x : Int) 13 := by
    unfold d_x8_row_249
    rw [h, bI_some, w32i (x := (x : Int)) (by omega) (by omega), if_pos (by omega), bd_eq, Int.toNat_natCast]
  rw [← e]
  unfold d_x8_row_193 d_x8_row_218 d_x8_row_235
  rw [h0, if_pos w32_0]
  rfl
theorem q253n {N x : Nat} {g : St → Option Rs} {s : St} {k : Int} (hk : 0 ≤ k ∧ k ≤ 13) (h : s 77 24 = 1 ∨ k ≠ 1) : d_x8_row_253 N g s (x : Int) k = d_x8_row_275 N g s (x : Int) k := by
  unfold d_x8_row_253
  rw [w32i (x := k) (by omega) (by omega)]
  rcases h with h | h
  · rw [h, if_neg (by decide)]
  · rw [if_neg h]
    split <;> rfl
theorem q253y {N x : Nat} (hx : x < 24) {g : St → Option Rs} {s s' : St} {w : Int} (h0 : s 77 24 = 0) (h : d_x8_num N s = some (s', w)) : d_x8_row_253 N g s (x : Int) 1 = d_x8_row_275 N g (up s' 99 x w) (x : Int) 1 := by
  unfold d_x8_row_253
  rw [h0, if_pos w32_0, if_pos w32_1, h, bI_some, w32i (x := (x : Int)) (by omega) (by omega), if_pos (by omega), bd_eq, Int.toNat_natCast]
theorem q275n {N x : Nat} {g : St → Option Rs} {s : St} {k : Int} (hk : 0 ≤ k ∧ k ≤ 13) (h : s 77 24 = 1 ∨ k ≠ 2) : d_x8_row_275 N g s (x : Int) k = d_x8_row_292 N g s (x : Int) k := by
  unfold d_x8_row_275
  rw [w32i (x := k) (by omega) (by omega)]
  rcases h with h | h
  · rw [h, if_neg (by decide)]
  · rw [if_neg h]
    split <;> rfl
theorem q275y {N x : Nat} {g : St → Option Rs} {s s' : St} {w : Int} (h0 : s 77 24 = 0) (h : d_x8_list N s (x : Int) = some (s', w)) : d_x8_row_275 N g s (x : Int) 2 = d_x8_row_292 N g s' (x : Int) 2 := by
  unfold d_x8_row_275
  rw [h0, if_pos w32_0, if_pos (show w32 2 = 2 from rfl), h, bV_some]
/-! what a part must be -/
def KO (k o v m : Int) : Prop := -9999 ≤ v ∧ v ≤ 9999 ∧ (k = 0 → 0 ≤ v ∧ v ≤ 7) ∧ (k = 2 → 1 ≤ m ∧ m ≤ 8) ∧ (k ≠ 2 → m = 0) ∧ (k = 8 ∨ k = 9 → 0 ≤ v) ∧ (k = 13 → 1 ≤ v ∧ v ≤ 9) ∧ (k = 3 ∨ k = 6 ∨ k = 10 → o = 42 ∨ o = 43 ∨ o = 45 ∨ o = 47 ∨ o = 37) ∧ (k = 4 ∨ k = 5 → o = 60 ∨ o = 61 ∨ o = 62 ∨ o = 37) ∧ (¬ (k = 3 ∨ k = 4 ∨ k = 5 ∨ k = 6 ∨ k = 10) → o = 0)
def PK (c r : St) (x : Nat) : Prop := (r 95 x = c 4 x ∧ r 96 x = c 5 x ∧ r 98 x = c 6 x ∧ r 100 x = c 9 x) ∧ KO (c 4 x) (c 5 x) (c 6 x) (c 9 x) ∧ (c 4 x = 1 → r 99 x = c 7 x ∧ -9999 ≤ c 7 x ∧ c 7 x ≤ 9999) ∧ (c 4 x = 2 → ∀ i : Nat, (i : Int) < c 9 x → r 101 (8 * x + i) = c 10 (8 * x + i) ∧ -9999 ≤ c 10 (8 * x + i) ∧ c 10 (8 * x + i) ≤ 9999)
theorem PK.mk {c r : St} {x : Nat} {k o v m : Int} (h4 : c 4 x = k) (h5 : c 5 x = o) (h6 : c 6 x = v) (h9 : c 9 x = m) (g4 : r 95 x = k) (g5 : r 96 x = o) (g6 : r 98 x = v) (g9 : r 100 x = m) (ko : KO k o v m) (h1 : k = 1 → r 99 x = c 7 x ∧ -9999 ≤ c 7 x ∧ c 7 x ≤ 9999) (h2 : k = 2 → ∀ i : Nat, (i : Int) < m → r 101 (8 * x + i) = c 10 (8 * x + i) ∧ -9999 ≤ c 10 (8 * x + i) ∧ c 10 (8 * x + i) ≤ 9999) : PK c r x := by
  unfold PK
  rw [h4, h5, h6, h9]
  exact ⟨⟨g4, g5, g6, g9⟩, ko, h1, h2⟩
/-- TOKENS of a part, at least -/
def tkc (k m : Int) : Int := if k = 0 ∨ k = 7 ∨ k = 11 then 1 else if k = 1 ∨ k = 3 ∨ k = 4 ∨ k = 5 then 3 else if k = 2 then 2 * m else 2
def INI (c r : St) (x : Nat) (k v : Int) : Prop := c 4 x = k ∧ c 5 x = 0 ∧ c 6 x = v ∧ c 7 x = 0 ∧ c 9 x = 0 ∧ r 95 x = k ∧ r 98 x = v ∧ r 100 x = 0
/-- a part's fields were read from TOKEN j on -/
def PQ (x : Nat) (k : Int) (b : Nat → Int) (z n j : Nat) (c r c' r' : St) : Prop := ∃ j', j ≤ j' ∧ RD c' r' b z n j' ∧ FCr x (x + 1) c c' ∧ FMr x (x + 1) r r' ∧ r' 77 26 = r 77 26 ∧ c' 4 x = k ∧ ((gd c' r' b z j' ∧ (j : Int) + tkc k (c' 9 x) ≤ (j' : Int) + 1 ∧ PK c' r' x) ∨ bad c' r')
