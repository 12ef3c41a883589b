/-! working with the decompiled functions -/
def fz (s : St) (a lo n : Nat) (x : Int) : St := fun b k => if b = a ∧ lo ≤ k ∧ k < lo + n then x else s b k
def r32 (x : Int) : Prop := -2147483648 ≤ x ∧ x ≤ 2147483647
theorem w32i {x : Int} (h1 : -2147483648 ≤ x) (h2 : x ≤ 2147483647) : w32 x = x := w32_id ⟨h1, h2⟩
theorem w32r {x : Int} (h : r32 x) : w32 x = x := w32_id h
theorem w64r {x : Int} (h : r32 x) : w64 x = x := w64_id (by unfold r32 at h; omega)
theorem w32_1 : w32 1 = 1 := rfl
theorem bI_some {s : St} {v : Int} {K : St → Int → Option Rs} : bI (some (s, v)) K = K s v := rfl
theorem bV_some {s : St} {v : Int} {K : St → Option Rs} : bV (some (s, v)) K = K s := rfl
theorem bS_some {s : St} {v : Int} {K : St → Nat → Option Rs} : bS (some (s, v)) K = K s v.toNat := rfl
theorem up_app {s : St} {a j b k : Nat} {x : Int} : up s a j x b k = if b = a ∧ k = j then x else s b k := rfl
theorem fz_app {s : St} {a lo n b k : Nat} {x : Int} : fz s a lo n x b k = if b = a ∧ lo ≤ k ∧ k < lo + n then x else s b k := rfl
theorem cp_app {s : St} {a0 sp a1 dp n b k : Nat} : cp s a0 sp a1 dp n b k = if b = a1 ∧ dp ≤ k ∧ k < dp + n then s a0 (sp + (k - dp)) else s b k := rfl
theorem fz_0 {s : St} {a lo : Nat} {x : Int} : fz s a lo 0 x = s := by
  funext b k
  rw [fz_app, if_neg (by omega)]
theorem fz_up {s : St} {a lo n : Nat} {x : Int} : fz (up s a lo x) a (lo + 1) n x = fz s a lo (n + 1) x := by
  funext b k
  rw [fz_app, fz_app, up_app]
  by_cases h1 : b = a ∧ lo + 1 ≤ k ∧ k < lo + 1 + n
  · rw [if_pos h1, if_pos (by omega)]
  · rw [if_neg h1]
    by_cases h2 : b = a ∧ k = lo
    · rw [if_pos h2, if_pos (by omega)]
    · rw [if_neg h2, if_neg (by omega)]
theorem e_in (N : Nat) (s : St) (v a b : Int) : d_x8_in N s v a b = some (s, if w64 a ≤ w64 v ∧ w64 v ≤ w64 b then 1 else 0) := by
  unfold d_x8_in
  by_cases h1 : w64 v < w64 a
  · rw [if_pos h1, if_neg (by omega)]
  · rw [if_neg h1]
    by_cases h2 : w64 b < w64 v
    · rw [if_pos h2, if_neg (by omega)]
    · rw [if_neg h2, if_pos (by omega)]
theorem e_in32 (N : Nat) (s : St) {v a b : Int} (hv : r32 v) (ha : r32 a) (hb : r32 b) : d_x8_in N s v a b = some (s, if a ≤ v ∧ v ≤ b then 1 else 0) := by rw [e_in, w64r hv, w64r ha, w64r hb]
theorem bz (c : Prop) [Decidable c] {α : Type} {A B : α} : (if (if c then (1 : Int) else 0) = 0 ∨ (if c then (1 : Int) else 0) = 1 then A else B) = A := by
  by_cases h : c
  · rw [if_pos h]; exact if_pos (Or.inr rfl)
  · rw [if_neg h]; exact if_pos (Or.inl rfl)
theorem wz (c : Prop) [Decidable c] : w32 (if c then (1 : Int) else 0) = (if c then (1 : Int) else 0) := by split <;> rfl
theorem iz {α : Type} (c : Prop) [Decidable c] {A B : α} : (if (if c then (1 : Int) else 0) = 0 then A else B) = if c then B else A := by
  by_cases h : c
  · rw [if_pos h, if_pos h]; exact if_neg (by decide)
  · rw [if_neg h, if_neg h]; exact if_pos rfl
theorem e_isSheet8 (N : Nat) (s : St) {a : Int} (h : r32 a) : d_x8_isSheet N s a = some (s, if 0 ≤ a ∧ a < 4 then 1 else 0) := by
  unfold d_x8_isSheet
  rw [w32r h, e_in32 N s h (by unfold r32; omega) (by unfold r32; omega), bI_some, bz]
  by_cases h1 : 0 ≤ a ∧ a < 4
  · rw [if_pos h1, if_pos (by omega)]
  · rw [if_neg h1, if_neg (by omega)]
theorem e_isSheet7 (N : Nat) (s : St) {a : Int} (h : r32 a) : d_x7_isSheet N s a = some (s, if 0 ≤ a ∧ a < 4 then 1 else 0) := by
  unfold d_x7_isSheet
  rw [w32r h]
  by_cases h1 : a < 0
  · rw [if_pos h1, if_neg (by omega)]
  · rw [if_neg h1]
    by_cases h2 : a < 4
    · rw [if_pos h2, if_pos (by omega)]
    · rw [if_neg h2, if_neg (by omega)]
theorem e_isStream8 (N : Nat) (s : St) {a : Int} (h : r32 a) : d_x8_isStream N s a = some (s, if 0 ≤ a ∧ a < 8 then 1 else 0) := by
  unfold d_x8_isStream
  rw [w32r h, e_in32 N s h (by unfold r32; omega) (by unfold r32; omega), bI_some, bz]
  by_cases h1 : 0 ≤ a ∧ a < 8
  · rw [if_pos h1, if_pos (by omega)]
  · rw [if_neg h1, if_neg (by omega)]
theorem e_isStream7 (N : Nat) (s : St) {a : Int} (h : r32 a) : d_x7_isStream N s a = some (s, if 0 ≤ a ∧ a < 8 then 1 else 0) := by
  unfold d_x7_isStream
  rw [w32r h]
  by_cases h1 : a < 0
  · rw [if_pos h1, if_neg (by omega)]
  · rw [if_neg h1]
    by_cases h2 : a < 8
    · rw [if_pos h2, if_pos (by omega)]
    · rw [if_neg h2, if_neg (by omega)]
