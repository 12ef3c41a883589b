/-! what is told: class's table t against the model's -/
def An (v : Int) : Prop := v = 1 ∨ v = 0 ∨ v = -6 ∨ (-24 ≤ v ∧ v ≤ -21)
def TP (t : Nat) (c r : St) (p : Nat) : Prop := r 86 p = c (t + 1) p ∧ 0 ≤ c (t + 1) p ∧ c (t + 1) p ≤ 64 ∧ ((c (t + 3) p = 1 ∧ r 87 p = 0) ∨ (c (t + 3) p = 0 ∧ r 87 p = 1) ∨ (-24 ≤ c (t + 3) p ∧ c (t + 3) p ≤ -21 ∧ r 87 p = c (t + 3) p)) ∧ r 88 p = c (t + 4) p ∧ (c (t + 4) p = 0 ∨ c (t + 4) p = 1)
def TM (t : Nat) (c r : St) (p i : Nat) : Prop := r 91 (64 * p + i) = c (t + 7) (64 * p + i) ∧ (c (t + 7) (64 * p + i) = 0 ∨ c (t + 7) (64 * p + i) = 1 ∨ c (t + 7) (64 * p + i) = 2 ∨ (-24 ≤ c (t + 7) (64 * p + i) ∧ c (t + 7) (64 * p + i) ≤ -21)) ∧ (c (t + 7) (64 * p + i) ≠ 0 → (i : Int) < c (t + 1) p) ∧ (c (t + 7) (64 * p + i) = 1 → r 92 (64 * p + i) = c (t + 8) (64 * p + i))
def NX (t : Nat) (T c : St) (p : Nat) (m : Int) : Prop := (T 19 p = 4 ∨ T 19 p = 11) → (m = 0 → c (t + 5) p = 0) ∧ ∀ i : Nat, (i : Int) + 1 = m → c (t + 5) p = c (t + 9) (64 * p + i) + 1
def TN (t : Nat) (T c r : St) (p : Nat) : Prop := (c (t + 4) p = 0 → NX t T c p (c (t + 1) p)) ∧ (T 19 p = 7 → r 89 p = c (t + 5) p ∧ r 90 p = c (t + 6) p ∧ 0 ≤ c (t + 5) p ∧ c (t + 5) p ≤ 64 ∧ 0 ≤ c (t + 6) p ∧ c (t + 6) p ≤ 64)
def KP (t : Nat) (T c r : St) (p i : Nat) : Prop := (T 19 p = 4 ∨ T 19 p = 11 → r 93 (64 * p + i) = c (t + 9) (64 * p + i) ∧ 0 ≤ c (t + 9) (64 * p + i) ∧ c (t + 9) (64 * p + i) ≤ 63) ∧ (T 19 p = 7 → (0 ≤ c (t + 9) (64 * p + i) ∧ c (t + 9) (64 * p + i) < 64 ∧ r 93 (64 * p + i) = 2 * c (t + 9) (64 * p + i)) ∨ (64 ≤ c (t + 9) (64 * p + i) ∧ c (t + 9) (64 * p + i) < 128 ∧ r 93 (64 * p + i) = 2 * (c (t + 9) (64 * p + i) - 64) + 1))
def Td (t : Nat) (T c : St) (p : Nat) (i : Int) : Prop := ∃ q : Nat, res T p = q ∧ q < 192 ∧ 0 ≤ i ∧ i < c (t + 1) q
def SO (t : Nat) (T c : St) (p i : Nat) : Prop := (T 19 p = 3 ∨ T 19 p = 5 ∨ T 19 p = 6 ∨ T 19 p = 8 ∨ T 19 p = 10 → Td t T c (p + 1) i)
  ∧ (T 19 p = 6 → Td t T c (p + 1 + (T 23 (p + 1)).toNat) i)
  ∧ (T 19 p = 9 → Td t T c (p + 1) (i + T 21 p))
  ∧ (T 19 p = 12 → 1 ≤ i → Td t T c (p + 1) (i - 1))
  ∧ (T 19 p = 13 → Td t T c (p + 1) (T 21 p * (i + 1) - 1))
  ∧ (T 19 p = 4 ∨ T 19 p = 11 → Td t T c (p + 1) (c (t + 9) (64 * p + i)))
  ∧ (T 19 p = 7 → (c (t + 9) (64 * p + i) < 64 → Td t T c (p + 1) (c (t + 9) (64 * p + i))) ∧ (64 ≤ c (t + 9) (64 * p + i) → Td t T c (p + 1 + (T 23 (p + 1)).toNat) (c (t + 9) (64 * p + i) - 64)))
  ∧ (T 19 p = 2 → (i : Int) < T 24 p)
/-- how many marks are told -/
def cn (f : Nat → Int) : Nat → Int
  | 0 => 0
  | n + 1 => cn f n + (if f n = 0 ∨ f n = 2 then 0 else 1)
def HC (t : Nat) (c : St) (p : Nat) : Prop := c (t + 2) p = cn (fun i => c (t + 7) (64 * p + i)) 64
def MT (t : Nat) (T c : St) : Prop := 0 ≤ c t 11 ∧ c t 11 ≤ 192
  ∧ (∀ m : Nat, (m : Int) < c t 11 → 0 ≤ c (t + 11) m ∧ c (t + 11) m < 192 ∧ c (t + 10) (c (t + 11) m).toNat = 1)
  ∧ (∀ m m' : Nat, (m : Int) < c t 11 → (m' : Int) < c t 11 → c (t + 11) m = c (t + 11) m' → m = m')
  ∧ (∀ p : Nat, p < 192 → (c (t + 10) p = 0 ∧ c (t + 1) p = 0 ∧ c (t + 2) p = 0 ∧ c (t + 3) p = 1 ∧ c (t + 4) p = 0 ∧ c (t + 5) p = 0 ∧ c (t + 6) p = 0) ∨ (c (t + 10) p = 1 ∧ VP T p ∧ ∃ m : Nat, (m : Int) < c t 11 ∧ c (t + 11) m = p))
def KB (t : Nat) (c : St) : Prop := ∀ k : Nat, k < 12288 → -128 ≤ c (t + 9) k ∧ c (t + 9) k ≤ 127
def TR (t : Nat) (c r : St) : Prop := c 50 1 = (t : Int) ∧ r 77 37 = c 50 2 ∧ r 77 36 = c 50 3 ∧ 0 ≤ c 50 3 ∧ c 50 3 ≤ c 50 2 ∧ c 50 2 ≤ 99
/-- all but the runs -/
def TS (t : Nat) (T c r : St) : Prop := (∀ p, p < 192 → TP t c r p) ∧ (∀ p i, p < 192 → i < 64 → TM t c r p i) ∧ (∀ p, VP T p → TN t T c r p) ∧ (∀ p i : Nat, VP T p → (i : Int) < c (t + 1) p → KP t T c r p i ∧ SO t T c p i) ∧ (∀ p, p < 192 → HC t c p) ∧ KB t c
def TI (t : Nat) (T c r : St) : Prop := (WT T ∧ ct c T ∧ rt r T) ∧ TR t c r ∧ MT t T c ∧ TS t T c r
theorem TI.W {t : Nat} {T c r : St} (H : TI t T c r) : WT T := H.1.1
theorem TI.ct {t : Nat} {T c r : St} (H : TI t T c r) : ct c T := H.1.2.1
theorem TI.rt {t : Nat} {T c r : St} (H : TI t T c r) : rt r T := H.1.2.2
theorem TI.R {t : Nat} {T c r : St} (H : TI t T c r) : TR t c r := H.2.1
theorem TI.T {t : Nat} {T c r : St} (H : TI t T c r) : MT t T c := H.2.2.1
theorem TI.S {t : Nat} {T c r : St} (H : TI t T c r) : TS t T c r := H.2.2.2
theorem TI.P {t : Nat} {T c r : St} (H : TI t T c r) {p : Nat} (hp : p < 192) : TP t c r p := H.S.1 p hp
theorem TI.M {t : Nat} {T c r : St} (H : TI t T c r) {p i : Nat} (hp : p < 192) (hi : i < 64) : TM t c r p i := H.S.2.1 p i hp hi
theorem TI.N {t : Nat} {T c r : St} (H : TI t T c r) {p : Nat} (hp : VP T p) : TN t T c r p := H.S.2.2.1 p hp
theorem TI.K {t : Nat} {T c r : St} (H : TI t T c r) {p i : Nat} (hp : VP T p) (hi : (i : Int) < c (t + 1) p) : KP t T c r p i ∧ SO t T c p i := H.S.2.2.2.1 p i hp hi
theorem TI.H {t : Nat} {T c r : St} (H : TI t T c r) {p : Nat} (hp : p < 192) : HC t c p := H.S.2.2.2.2.1 p hp
theorem TI.B {t : Nat} {T c r : St} (H : TI t T c r) : KB t c := H.S.2.2.2.2.2
/-- how a table goes on: x may set what is kept next -/
def Mo (t x : Nat) (c c' : St) : Prop := (∀ a k, ¬ (a = 50 ∨ (t ≤ a ∧ a ≤ t + 11)) → c' a k = c a k) ∧ (∀ k, k ≠ 3 → k ≠ 4 → c' 50 k = c 50 k) ∧ c 50 3 ≤ c' 50 3
  ∧ (∀ p, p < 192 → c (t + 1) p ≤ c' (t + 1) p ∧ c' (t + 4) p = c (t + 4) p ∧ (c (t + 10) p = 1 → c' (t + 10) p = 1) ∧ (c (t + 4) p = 1 → c' (t + 1) p = c (t + 1) p ∧ c' (t + 3) p = c (t + 3) p ∧ (p ≠ x → c' (t + 5) p = c (t + 5) p ∧ c' (t + 6) p = c (t + 6) p)))
  ∧ (∀ p i : Nat, p < 192 → i < 64 → (c (t + 7) (64 * p + i) = 2 ↔ c' (t + 7) (64 * p + i) = 2) ∧ ((i : Int) < c (t + 1) p → c' (t + 9) (64 * p + i) = c (t + 9) (64 * p + i)))
def Fm (r r' : St) : Prop := (∀ a k, ¬ (a = 77 ∨ (86 ≤ a ∧ a ≤ 93)) → r' a k = r a k) ∧ ∀ k, k ≠ 36 → k ≠ 38 → r' 77 k = r 77 k
theorem Mo.refl {t x : Nat} {c : St} : Mo t x c c := ⟨fun _ _ _ => rfl, fun _ _ _ => rfl, Int.le_refl _, fun _ _ => ⟨Int.le_refl _, rfl, fun h => h, fun _ => ⟨rfl, rfl, fun _ => ⟨rfl, rfl⟩⟩⟩, fun _ _ _ _ => ⟨Iff.rfl, fun _ => rfl⟩⟩
theorem Fm.refl {r : St} : Fm r r := ⟨fun _ _ _ => rfl, fun _ _ _ => rfl⟩
theorem Fm.trans {r s u : St} (h : Fm r s) (g : Fm s u) : Fm r u := ⟨fun a k z => (g.1 a k z).trans (h.1 a k z), fun k z y => (g.2 k z y).trans (h.2 k z y)⟩
theorem Mo.trans {t x : Nat} {c d e : St} (h : Mo t x c d) (g : Mo t x d e) : Mo t x c e := by
  obtain ⟨h1, h2, h3, h4, h5⟩ := h
  obtain ⟨g1, g2, g3, g4, g5⟩ := g
  refine ⟨fun a k z => (g1 a k z).trans (h1 a k z), fun k z y => (g2 k z y).trans (h2 k z y), Int.le_trans h3 g3, ?_, ?_⟩
  · intro p hp
    obtain ⟨a1, a2, a3, a4⟩ := h4 p hp
    obtain ⟨b1, b2, b3, b4⟩ := g4 p hp
    refine ⟨by omega, by omega, fun z => b3 (a3 z), fun z => ?_⟩
    obtain ⟨a5, a6, a7⟩ := a4 z
    obtain ⟨b5, b6, b7⟩ := b4 (by omega)
    exact ⟨by omega, by omega, fun y => ⟨(b7 y).1.trans (a7 y).1, (b7 y).2.trans (a7 y).2⟩⟩
  · intro p i hp hi
    have a1 := (h4 p hp).1
    obtain ⟨a2, a3⟩ := h5 p i hp hi
    obtain ⟨b2, b3⟩ := g5 p i hp hi
    exact ⟨a2.trans b2, fun z => (b3 (by omega)).trans (a3 z)⟩
theorem Mo.any {t x : Nat} {c d : St} (h : Mo t 192 c d) : Mo t x c d := by
  obtain ⟨h1, h2, h3, h4, h5⟩ := h
  refine ⟨h1, h2, h3, fun p hp => ?_, h5⟩
  obtain ⟨a1, a2, a3, a4⟩ := h4 p hp
  refine ⟨a1, a2, a3, fun z => ?_⟩
  obtain ⟨a5, a6, a7⟩ := a4 z
  exact ⟨a5, a6, fun _ => a7 (by omega)⟩
theorem Td.mo {t : Nat} {T c c' : St} {p : Nat} {i : Int} (h : Td t T c p i) (g : ∀ q, q < 192 → c (t + 1) q ≤ c' (t + 1) q) : Td t T c' p i := by
  obtain ⟨q, h1, h2, h3, h4⟩ := h
  have := g q h2
  exact ⟨q, h1, h2, h3, by omega⟩
theorem SO.mo {t : Nat} {T c c' : St} {p i : Nat} (h : SO t T c p i) (g : ∀ q, q < 192 → c (t + 1) q ≤ c' (t + 1) q) (e : c' (t + 9) (64 * p + i) = c (t + 9) (64 * p + i)) : SO t T c' p i := by
  obtain ⟨h1, h2, h3, h4, h5, h6, h7, h8⟩ := h
  unfold SO
  rw [e]
  exact ⟨fun z => (h1 z).mo g, fun z => (h2 z).mo g, fun z => (h3 z).mo g, fun z y => (h4 z y).mo g, fun z => (h5 z).mo g, fun z => (h6 z).mo g, fun z => ⟨fun y => ((h7 z).1 y).mo g, fun y => ((h7 z).2 y).mo g⟩, h8⟩
theorem cn_congr {f g : Nat → Int} : ∀ n : Nat, (∀ i, i < n → f i = g i) → cn f n = cn g n := by
  intro n
  induction n with
  | zero => intro _; rfl
  | succ n ih =>
    intro h
    show cn f n + _ = cn g n + _
    rw [ih (fun i hi => h i (by omega)), h n (by omega)]
theorem cn_set {f g : Nat → Int} {a : Nat} : ∀ n : Nat, a < n → (∀ i, i < n → i ≠ a → f i = g i) → cn f n + (if g a = 0 ∨ g a = 2 then 0 else 1) = cn g n + (if f a = 0 ∨ f a = 2 then 0 else 1) := by
  intro n
  induction n with
  | zero => intro h _; omega
  | succ n ih =>
    intro h e
    show cn f n + _ + _ = cn g n + _ + _
    by_cases hn : a = n
    · subst hn
      rw [cn_congr (f := f) (g := g) a (fun i hi => e i (by omega) (by omega))]
      omega
    · have := ih (by omega) (fun i hi => e i (by omega))
      rw [e n (by omega) (by omega)]
      omega
theorem cn_rng {f : Nat → Int} : ∀ n : Nat, 0 ≤ cn f n ∧ cn f n ≤ n := by
  intro n
  induction n with
  | zero => exact ⟨Int.le_refl _, Int.le_refl _⟩
  | succ n ih =>
    show 0 ≤ cn f n + (if f n = 0 ∨ f n = 2 then 0 else 1) ∧ cn f n + (if f n = 0 ∨ f n = 2 then 0 else 1) ≤ _
    split <;> omega
