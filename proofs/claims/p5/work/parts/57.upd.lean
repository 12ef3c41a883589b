theorem ct.up {c T : St} {a j : Nat} {x : Int} (h : ct c T) (ha : ¬ (18 ≤ a ∧ a ≤ 25)) : ct (up c a j x) T := fun b k h1 h2 => (up_ne (by omega)).trans (h b k h1 h2)
theorem rt.up {r T : St} {a j : Nat} {x : Int} (h : rt r T) (ha : ¬ (78 ≤ a ∧ a ≤ 85)) : rt (up r a j x) T := fun b k h1 h2 => (up_ne (by omega)).trans (h b k h1 h2)
theorem TS.cong {t : Nat} {T c r c' r' : St} (H : TS t T c r) (e : ∀ a k, t + 1 ≤ a → a ≤ t + 9 → c' a k = c a k) (f : ∀ a k, 86 ≤ a → a ≤ 93 → r' a k = r a k) : TS t T c' r' := by
  have e1 := fun k => e (t + 1) k (by omega) (by omega)
  have e2 := fun k => e (t + 2) k (by omega) (by omega)
  have e3 := fun k => e (t + 3) k (by omega) (by omega)
  have e4 := fun k => e (t + 4) k (by omega) (by omega)
  have e5 := fun k => e (t + 5) k (by omega) (by omega)
  have e6 := fun k => e (t + 6) k (by omega) (by omega)
  have e7 := fun k => e (t + 7) k (by omega) (by omega)
  have e8 := fun k => e (t + 8) k (by omega) (by omega)
  have e9 := fun k => e (t + 9) k (by omega) (by omega)
  have f6 := fun k => f 86 k (by omega) (by omega)
  have f7 := fun k => f 87 k (by omega) (by omega)
  have f8 := fun k => f 88 k (by omega) (by omega)
  have f9 := fun k => f 89 k (by omega) (by omega)
  have f0 := fun k => f 90 k (by omega) (by omega)
  have f1 := fun k => f 91 k (by omega) (by omega)
  have f2 := fun k => f 92 k (by omega) (by omega)
  have f3 := fun k => f 93 k (by omega) (by omega)
  unfold TS TP TM TN NX KP SO Td HC KB at *
  simp only [e1, e2, e3, e4, e5, e6, e7, e8, e9, f6, f7, f8, f9, f0, f1, f2, f3]
  exact H
theorem MT.cong {t : Nat} {T c c' : St} (H : MT t T c) (e : ∀ a k, t ≤ a → a ≤ t + 11 → c' a k = c a k) : MT t T c' := by
  have e0 := fun k => e t k (by omega) (by omega)
  have e1 := fun k => e (t + 1) k (by omega) (by omega)
  have e2 := fun k => e (t + 2) k (by omega) (by omega)
  have e3 := fun k => e (t + 3) k (by omega) (by omega)
  have e4 := fun k => e (t + 4) k (by omega) (by omega)
  have e5 := fun k => e (t + 5) k (by omega) (by omega)
  have e6 := fun k => e (t + 6) k (by omega) (by omega)
  have e10 := fun k => e (t + 10) k (by omega) (by omega)
  have e11 := fun k => e (t + 11) k (by omega) (by omega)
  unfold MT at *
  simp only [e0, e1, e2, e3, e4, e5, e6, e10, e11]
  exact H
theorem MT.upd {t p : Nat} {T c c' : St} (H : MT t T c) (hm : c (t + 10) p = 1) (e0 : ∀ k, c' t k = c t k) (e10 : ∀ k, c' (t + 10) k = c (t + 10) k) (e11 : ∀ k, c' (t + 11) k = c (t + 11) k) (e : ∀ j q, 1 ≤ j → j ≤ 6 → q ≠ p → c' (t + j) q = c (t + j) q) : MT t T c' := by
  unfold MT at *
  simp only [e0, e10, e11]
  refine ⟨H.1, H.2.1, H.2.2.1, H.2.2.2.1, fun q hq => ?_⟩
  rcases H.2.2.2.2 q hq with z | z
  · have hne : q ≠ p := by
      intro h
      rw [h] at z
      omega
    rw [e 1 q (by omega) (by omega) hne, e 2 q (by omega) (by omega) hne, e 3 q (by omega) (by omega) hne, e 4 q (by omega) (by omega) hne, e 5 q (by omega) (by omega) hne, e 6 q (by omega) (by omega) hne]
    exact Or.inl z
  · exact Or.inr z
theorem TI.met {t : Nat} {T c r : St} (H : TI t T c r) {p : Nat} (hp : p < 192) (h : c (t + 4) p = 1 ∨ 0 < c (t + 1) p) : c (t + 10) p = 1 := by
  rcases H.T.2.2.2.2 p hp with z | z <;> omega
/-- one run more -/
theorem U_run {t : Nat} {T c r : St} (h2 : t = 26 ∨ t = 38) (H : TI t T c r) (hr : c 50 3 < c 50 2) {x y : Int} (hx : x = c 50 3 + 1) (hy : y = c 50 3 + 1) : TI t T (up c 50 3 x) (up r 77 36 y) ∧ Mo t 192 c (up c 50 3 x) ∧ Fm r (up r 77 36 y) := by
  have h := H.R
  unfold TR at h
  refine ⟨⟨⟨H.W, H.ct.up (by omega), H.rt.up (by omega)⟩, ?_, H.T.cong (fun a k _ _ => up_ne (by omega)), H.S.cong (fun a k _ _ => up_ne (by omega)) (fun a k _ _ => up_ne (by omega))⟩, ⟨fun a k z => up_ne (by omega), fun k _ _ => up_nj (by omega), ?_, ?_, ?_⟩, ⟨fun a k z => up_ne (by omega), fun k z _ => up_nj (by omega)⟩⟩
  · unfold TR
    simp (disch := omega) only [up_same, up_nj]
    omega
  · rw [up_same]; omega
  · intro p hp
    simp (disch := omega) only [up_ne]
    exact ⟨Int.le_refl _, trivial, fun h => h, fun _ => ⟨trivial, trivial, fun _ => ⟨trivial, trivial⟩⟩⟩
  · intro p i hp hi
    simp (disch := omega) only [up_ne]
    exact ⟨trivial, fun _ => trivial⟩
/-- another value in hand -/
theorem U_valL {t : Nat} {T c r : St} (h2 : t = 26 ∨ t = 38) (H : TI t T c r) (x : Int) : TI t T (up c 50 4 x) r ∧ Mo t 192 c (up c 50 4 x) := by
  have h := H.R
  unfold TR at h
  refine ⟨⟨⟨H.W, H.ct.up (by omega), H.rt⟩, ?_, H.T.cong (fun a k _ _ => up_ne (by omega)), H.S.cong (fun a k _ _ => up_ne (by omega)) (fun a k _ _ => rfl)⟩, ⟨fun a k z => up_ne (by omega), fun k _ _ => up_nj (by omega), ?_, ?_, ?_⟩⟩
  · unfold TR
    simp (disch := omega) only [up_nj]
    omega
  · rw [up_nj (by omega)]; omega
  · intro p hp
    simp (disch := omega) only [up_ne]
    exact ⟨Int.le_refl _, trivial, fun h => h, fun _ => ⟨trivial, trivial, fun _ => ⟨trivial, trivial⟩⟩⟩
  · intro p i hp hi
    simp (disch := omega) only [up_ne]
    exact ⟨trivial, fun _ => trivial⟩
theorem U_valR {t : Nat} {T c r : St} (h2 : t = 26 ∨ t = 38) (H : TI t T c r) (x : Int) : TI t T c (up r 77 38 x) ∧ Fm r (up r 77 38 x) := by
  have h := H.R
  unfold TR at h
  refine ⟨⟨⟨H.W, H.ct, H.rt.up (by omega)⟩, ?_, H.T, H.S.cong (fun a k _ _ => rfl) (fun a k _ _ => up_ne (by omega))⟩, ⟨fun a k z => up_ne (by omega), fun k z _ => up_nj (by omega)⟩⟩
  unfold TR
  simp (disch := omega) only [up_nj]
  omega
/-- telling begins -/
theorem U_tell {t : Nat} {T c r : St} (h2 : t = 26 ∨ t = 38) (H : TI t T c r) {p : Nat} (hp : p < 192) (hm : c (t + 10) p = 1) : TI t T (up c (t + 4) p 1) (up r 88 p 1) := by
  refine ⟨⟨H.W, H.ct.up (by omega), H.rt.up (by omega)⟩, ?_, H.T.upd hm (fun k => up_ne (by omega)) (fun k => up_ne (by omega)) (fun k => up_ne (by omega)) (fun j q _ _ h => up_nj h), ?_, ?_, ?_, ?_, ?_, ?_⟩
  · have h := H.R
    unfold TR at *
    simp (disch := omega) only [up_ne]
    exact h
  · intro q hq
    have h := H.P hq
    unfold TP at *
    by_cases e : q = p
    · subst e
      simp (disch := omega) only [up_ne, up_same, true_and, and_true, or_true, true_or, false_or, or_false]
      omega
    · simp (disch := omega) only [up_ne, up_nj]
      exact h
  · intro q i hq hi
    have h := H.M hq hi
    unfold TM at *
    simp (disch := omega) only [up_ne]
    exact h
  · intro q hq
    have h := H.N hq
    unfold TN NX at *
    by_cases e : q = p
    · subst e
      simp (disch := omega) only [up_ne, up_same]
      exact ⟨fun z => absurd z (by decide), h.2⟩
    · simp (disch := omega) only [up_ne, up_nj]
      exact h
  · intro q i hq hi
    rw [up_ne (by omega)] at hi
    have h := H.K hq hi
    unfold KP SO Td at *
    simp (disch := omega) only [up_ne]
    exact h
  · intro q hq
    have h := H.H hq
    unfold HC at *
    simp (disch := omega) only [up_ne]
    exact h
  · have h := H.B
    unfold KB at *
    simp (disch := omega) only [up_ne]
    exact h
/-- telling ends, DEAR -/
theorem U_dear {t : Nat} {T c r : St} (h2 : t = 26 ∨ t = 38) (H : TI t T c r) {p : Nat} (hp : p < 192) (hm : c (t + 10) p = 1) (hn : NX t T c p (c (t + 1) p)) : TI t T (up c (t + 4) p 0) (up r 88 p 0) := by
  refine ⟨⟨H.W, H.ct.up (by omega), H.rt.up (by omega)⟩, ?_, H.T.upd hm (fun k => up_ne (by omega)) (fun k => up_ne (by omega)) (fun k => up_ne (by omega)) (fun j q _ _ h => up_nj h), ?_, ?_, ?_, ?_, ?_, ?_⟩
  · have h := H.R
    unfold TR at *
    simp (disch := omega) only [up_ne]
    exact h
  · intro q hq
    have h := H.P hq
    unfold TP at *
    by_cases e : q = p
    · subst e
      simp (disch := omega) only [up_ne, up_same, true_and, and_true, or_true, true_or, false_or, or_false]
      omega
    · simp (disch := omega) only [up_ne, up_nj]
      exact h
  · intro q i hq hi
    have h := H.M hq hi
    unfold TM at *
    simp (disch := omega) only [up_ne]
    exact h
  · intro q hq
    have h := H.N hq
    unfold TN NX at *
    by_cases e : q = p
    · subst e
      simp (disch := omega) only [up_ne, up_same]
      exact ⟨fun _ => hn, h.2⟩
    · simp (disch := omega) only [up_ne, up_nj]
      exact h
  · intro q i hq hi
    rw [up_ne (by omega)] at hi
    have h := H.K hq hi
    unfold KP SO Td at *
    simp (disch := omega) only [up_ne]
    exact h
  · intro q hq
    have h := H.H hq
    unfold HC at *
    simp (disch := omega) only [up_ne]
    exact h
  · have h := H.B
    unfold KB at *
    simp (disch := omega) only [up_ne]
    exact h
/-- the part goes on no more -/
theorem U_over {t : Nat} {T c r : St} (h2 : t = 26 ∨ t = 38) (H : TI t T c r) {p : Nat} (hp : p < 192) (hm : c (t + 10) p = 1) {v w x : Int} (hv : (v = 0 ∧ w = 1) ∨ (-24 ≤ v ∧ v ≤ -21 ∧ w = v)) (hx : x = r 86 p) : TI t T (up c (t + 3) p v) (up (up r 86 p x) 87 p w) := by
  refine ⟨⟨H.W, H.ct.up (by omega), (H.rt.up (by omega)).up (by omega)⟩, ?_, H.T.upd hm (fun k => up_ne (by omega)) (fun k => up_ne (by omega)) (fun k => up_ne (by omega)) (fun j q _ _ h => up_nj h), ?_, ?_, ?_, ?_, ?_, ?_⟩
  · have h := H.R
    unfold TR at *
    simp (disch := omega) only [up_ne]
    exact h
  · intro q hq
    have h := H.P hq
    unfold TP at *
    by_cases e : q = p
    · subst e
      simp (disch := omega) only [up_ne, up_same, true_and, and_true, or_true, true_or, false_or, or_false]
      omega
    · simp (disch := omega) only [up_ne, up_nj]
      exact h
  · intro q i hq hi
    have h := H.M hq hi
    unfold TM at *
    simp (disch := omega) only [up_ne]
    exact h
  · intro q hq
    have h := H.N hq
    unfold TN NX at *
    simp (disch := omega) only [up_ne]
    exact h
  · intro q i hq hi
    rw [up_ne (by omega)] at hi
    have h := H.K hq hi
    unfold KP SO Td at *
    simp (disch := omega) only [up_ne]
    exact h
  · intro q hq
    have h := H.H hq
    unfold HC at *
    simp (disch := omega) only [up_ne]
    exact h
  · have h := H.B
    unfold KB at *
    simp (disch := omega) only [up_ne]
    exact h
/-- one place more; telling ends -/
theorem U_more {t : Nat} {T c r : St} (h2 : t = 26 ∨ t = 38) (H : TI t T c r) {p i : Nat} (hp : VP T p) (hm : c (t + 10) p = 1) (hi : c (t + 1) p = i) (hl : i < 64) (hg : c (t + 3) p = 1) (hn : NX t T c p (i + 1)) (hk : KP t T c r p i) (hs : SO t T c p i) {x y : Int} (hx : x = i + 1) (hy : y = i + 1) : TI t T (up (up c (t + 4) p 0) (t + 1) p x) (up (up (up r 88 p 0) 86 p y) 87 p 0) := by
  have hp1 := hp.1
  have g : ∀ q, q < 192 → c (t + 1) q ≤ (up (up c (t + 4) p 0) (t + 1) p x) (t + 1) q := by
    intro q hq
    by_cases e : q = p
    · subst e
      rw [up_same]; omega
    · rw [up_nj e, up_ne (by omega)]; exact Int.le_refl _
  refine ⟨⟨H.W, (H.ct.up (by omega)).up (by omega), ((H.rt.up (by omega)).up (by omega)).up (by omega)⟩, ?_, H.T.upd hm (fun k => by rw [up_ne (by omega), up_ne (by omega)]) (fun k => by rw [up_ne (by omega), up_ne (by omega)]) (fun k => by rw [up_ne (by omega), up_ne (by omega)]) (fun j q _ _ h => by rw [up_nj h, up_nj h]), ?_, ?_, ?_, ?_, ?_, ?_⟩
  · have h := H.R
    unfold TR at *
    simp (disch := omega) only [up_ne]
    exact h
  · intro q hq
    have h := H.P hq
    unfold TP at *
    by_cases e : q = p
    · subst e
      simp (disch := omega) only [up_ne, up_same, true_and, and_true, or_true, true_or, false_or, or_false]
      omega
    · simp (disch := omega) only [up_ne, up_nj]
      exact h
  · intro q j hq hj
    have h := H.M hq hj
    have := g q hq
    unfold TM at *
    rw [up_ne (by omega : t + 7 ≠ t + 1), up_ne (by omega : t + 7 ≠ t + 4), up_ne (by omega : t + 8 ≠ t + 1), up_ne (by omega : t + 8 ≠ t + 4)]
    simp (disch := omega) only [up_ne (a := 86), up_ne (a := 87), up_ne (a := 88)]
    exact ⟨h.1, h.2.1, fun z => by have := h.2.2.1 z; omega, h.2.2.2⟩
  · intro q hq
    have h := H.N hq
    unfold TN NX at *
    by_cases e : q = p
    · subst e
      simp (disch := omega) only [up_ne, up_same]
      exact ⟨fun _ => by rw [hx]; exact hn, h.2⟩
    · simp (disch := omega) only [up_ne, up_nj]
      exact h
  · intro q j hq hj
    have hq1 := hq.1
    have old : (j : Int) < c (t + 1) q → KP t T (up (up c (t + 4) p 0) (t + 1) p x) (up (up (up r 88 p 0) 86 p y) 87 p 0) q j ∧ SO t T (up (up c (t + 4) p 0) (t + 1) p x) q j := by
      intro z
      have h := H.K hq z
      refine ⟨?_, h.2.mo g (by rw [up_ne (by omega), up_ne (by omega)])⟩
      have h := h.1
      unfold KP at *
      simp (disch := omega) only [up_ne]
      exact h
    by_cases e : q = p
    · subst e
      rw [up_same] at hj
      by_cases e2 : j = i
      · subst e2
        refine ⟨?_, hs.mo g (by rw [up_ne (by omega), up_ne (by omega)])⟩
        unfold KP at *
        simp (disch := omega) only [up_ne]
        exact hk
      · exact old (by omega)
    · rw [up_nj e, up_ne (by omega)] at hj
      exact old hj
  · intro q hq
    have h := H.H hq
    unfold HC at *
    simp (disch := omega) only [up_ne]
    exact h
  · have h := H.B
    unfold KB at *
    simp (disch := omega) only [up_ne]
    exact h
