/-! two runs side by side -/
def Two (A B : Option Rs) (Q : St → St → Int → Prop) : Prop := ∃ c r v, A = some (c, v) ∧ B = some (r, v) ∧ Q c r v
theorem Two.ret {c r : St} {v w : Int} {Q : St → St → Int → Prop} (h : w = v) (q : Q c r v) : Two (some (c, v)) (some (r, w)) Q := ⟨c, r, v, rfl, by rw [h], q⟩
theorem Two.iL {p : Prop} [Decidable p] {A A' B : Option Rs} {Q : St → St → Int → Prop} (h : p) (k : Two A B Q) : Two (if p then A else A') B Q := by rw [if_pos h]; exact k
theorem Two.eL {p : Prop} [Decidable p] {A A' B : Option Rs} {Q : St → St → Int → Prop} (h : ¬ p) (k : Two A' B Q) : Two (if p then A else A') B Q := by rw [if_neg h]; exact k
theorem Two.iR {p : Prop} [Decidable p] {A A' B : Option Rs} {Q : St → St → Int → Prop} (h : p) (k : Two B A Q) : Two B (if p then A else A') Q := by rw [if_pos h]; exact k
theorem Two.eR {p : Prop} [Decidable p] {A A' B : Option Rs} {Q : St → St → Int → Prop} (h : ¬ p) (k : Two B A' Q) : Two B (if p then A else A') Q := by rw [if_neg h]; exact k
theorem Two.bdL {α : Type} {x : α} {f : α → Option Rs} {B : Option Rs} {Q : St → St → Int → Prop} (k : Two (f x) B Q) : Two (bd x f) B Q := k
theorem Two.bdR {α : Type} {x : α} {f : α → Option Rs} {B : Option Rs} {Q : St → St → Int → Prop} (k : Two B (f x) Q) : Two B (bd x f) Q := k
theorem Two.cL {s : St} {v : Int} {K : St → Int → Option Rs} {A B : Option Rs} {Q : St → St → Int → Prop} (h : A = some (s, v)) (k : Two (K s v) B Q) : Two (bI A K) B Q := by rw [h]; exact k
theorem Two.cR {s : St} {v : Int} {K : St → Int → Option Rs} {A B : Option Rs} {Q : St → St → Int → Prop} (h : A = some (s, v)) (k : Two B (K s v) Q) : Two B (bI A K) Q := by rw [h]; exact k
theorem Two.vL {s : St} {v : Int} {K : St → Option Rs} {A B : Option Rs} {Q : St → St → Int → Prop} (h : A = some (s, v)) (k : Two (K s) B Q) : Two (bV A K) B Q := by rw [h]; exact k
theorem Two.vR {s : St} {v : Int} {K : St → Option Rs} {A B : Option Rs} {Q : St → St → Int → Prop} (h : A = some (s, v)) (k : Two B (K s) Q) : Two B (bV A K) Q := by rw [h]; exact k
theorem Two.call {K L : St → Int → Option Rs} {A B : Option Rs} {Q Q' : St → St → Int → Prop} (h : Two A B Q') (k : ∀ c r v, Q' c r v → Two (K c v) (L r v) Q) : Two (bI A K) (bI B L) Q := by
  obtain ⟨c, r, v, h1, h2, h3⟩ := h
  rw [h1, h2]
  exact k c r v h3
theorem Two.callV {K L : St → Option Rs} {A B : Option Rs} {Q Q' : St → St → Int → Prop} (h : Two A B Q') (k : ∀ c r v, Q' c r v → Two (K c) (L r) Q) : Two (bV A K) (bV B L) Q := by
  obtain ⟨c, r, v, h1, h2, h3⟩ := h
  rw [h1, h2]
  exact k c r v h3
theorem Two.mono {A B : Option Rs} {Q Q' : St → St → Int → Prop} (h : Two A B Q) (k : ∀ c r v, Q c r v → Q' c r v) : Two A B Q' := by
  obtain ⟨c, r, v, h1, h2, h3⟩ := h
  exact ⟨c, r, v, h1, h2, k c r v h3⟩
theorem Two.tail {A B : Option Rs} {Q : St → St → Int → Prop} (h : Two A B Q) : Two (bI A fun s v => some (s, v)) (bI B fun s v => some (s, v)) Q := Two.call h (fun _ _ _ q => Two.ret rfl q)
theorem Two.tailL {A B : Option Rs} {Q : St → St → Int → Prop} (h : Two A B Q) : Two (bI A fun s v => some (s, v)) B Q := by
  obtain ⟨c, r, v, h1, h2, h3⟩ := h
  exact ⟨c, r, v, by rw [h1]; rfl, h2, h3⟩
theorem Two.tailR {A B : Option Rs} {Q : St → St → Int → Prop} (h : Two A B Q) : Two A (bI B fun s v => some (s, v)) Q := by
  obtain ⟨c, r, v, h1, h2, h3⟩ := h
  exact ⟨c, r, v, h1, by rw [h2]; rfl, h3⟩
theorem and01 : and32 0 1 = 0 := rfl
theorem and11 : and32 1 1 = 1 := rfl
theorem w8i {x : Int} (h1 : -128 ≤ x) (h2 : x ≤ 127) : w8 x = x := Int.bmod_eq_of_le (by omega) (by omega)
