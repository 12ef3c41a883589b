/-- the TOKENS of a part, field by field -/
def om (T : St) (p : Nat) : List (List Int) := if T 20 p = 0 then [] else [[T 20 p]]
def nm (T : St) (p : Nat) : List (List Int) := if T 19 p = 1 ∨ T 19 p = 3 ∨ T 19 p = 4 ∨ T 19 p = 5 ∨ T 19 p = 8 ∨ T 19 p = 9 ∨ T 19 p = 12 ∨ T 19 p = 13 then nt (T 21 p) else []
def sc (T : St) (p : Nat) : List (List Int) := if T 19 p = 1 then nt (T 22 p) else []
theorem tp_eq {T : St} {p : Nat} (w : WFp T p) : tp T p = [kw T p] ++ om T p ++ nm T p ++ sc T p ++ lt T p (T 24 p).toNat := by
  have w1 := w.1
  have w6 := w.2.2.2.2.2.1
  have w9 := w.2.2.2.2.2.2.2.2.1
  have w10 := w.2.2.2.2.2.2.2.2.2.1
  have w11 := w.2.2.2.2.2.2.2.2.2.2.1
  have hk : T 19 p = 0 ∨ T 19 p = 1 ∨ T 19 p = 2 ∨ T 19 p = 3 ∨ T 19 p = 4 ∨ T 19 p = 5 ∨ T 19 p = 6 ∨ T 19 p = 7 ∨ T 19 p = 8 ∨ T 19 p = 9 ∨ T 19 p = 10 ∨ T 19 p = 11 ∨ T 19 p = 12 ∨ T 19 p = 13 := by omega
  have l0 : lt T p (0 : Int).toNat = [] := rfl
  rcases hk with e | e | e | e | e | e | e | e | e | e | e | e | e | e
  · have a := w11 (by omega)
    have b := w6 (by omega)
    simp [tp, fl, kw, om, nm, sc, e, a, b, l0]
    rfl
  · have a := w11 (by omega)
    have b := w6 (by omega)
    simp [tp, fl, kw, om, nm, sc, e, a, b, l0]
    rfl
  · have a := w11 (by omega)
    simp [tp, fl, kw, om, nm, sc, e, a]
  · have a : ¬ T 20 p = 0 := by have := w9 (by omega); omega
    have b := w6 (by omega)
    simp [tp, fl, kw, om, nm, sc, e, a, b, l0]
    rfl
  · have a : ¬ T 20 p = 0 := by have := w10 (by omega); omega
    have b := w6 (by omega)
    simp [tp, fl, kw, om, nm, sc, e, a, b, l0]
    rfl
  · have a : ¬ T 20 p = 0 := by have := w10 (by omega); omega
    have b := w6 (by omega)
    simp [tp, fl, kw, om, nm, sc, e, a, b, l0]
    rfl
  · have a : ¬ T 20 p = 0 := by have := w9 (by omega); omega
    have b := w6 (by omega)
    simp [tp, fl, kw, om, nm, sc, e, a, b, l0]
    rfl
  · have a := w11 (by omega)
    have b := w6 (by omega)
    simp [tp, fl, kw, om, nm, sc, e, a, b, l0]
    rfl
  · have a := w11 (by omega)
    have b := w6 (by omega)
    simp [tp, fl, kw, om, nm, sc, e, a, b, l0]
    rfl
  · have a := w11 (by omega)
    have b := w6 (by omega)
    simp [tp, fl, kw, om, nm, sc, e, a, b, l0]
    rfl
  · have a : ¬ T 20 p = 0 := by have := w9 (by omega); omega
    have b := w6 (by omega)
    simp [tp, fl, kw, om, nm, sc, e, a, b, l0]
    rfl
  · have a := w11 (by omega)
    have b := w6 (by omega)
    simp [tp, fl, kw, om, nm, sc, e, a, b, l0]
    rfl
  · have a := w11 (by omega)
    have b := w6 (by omega)
    simp [tp, fl, kw, om, nm, sc, e, a, b, l0]
    rfl
  · have a := w11 (by omega)
    have b := w6 (by omega)
    simp [tp, fl, kw, om, nm, sc, e, a, b, l0]
    rfl
