/-- a text read anew at a stream -/
theorem XT.put {T T' : St} (X : XT T) {s n : Nat} (hs : s < 8) (hn : n ≤ 24) (e1 : T' 18 s = n ∧ T' 78 s = n) (hW : ∀ q, q < n → WFp T' (24 * s + q)) (hP : PW T' s)
    (e3 : ∀ a, a < 8 → a ≠ s → T' 18 a = T 18 a ∧ T' 78 a = T 78 a) (e4 : ∀ a q, ((19 ≤ a ∧ a ≤ 24) ∨ (79 ≤ a ∧ a ≤ 84)) → q < 192 → q / 24 ≠ s → T' a q = T a q) (e5 : ∀ a q i, (a = 25 ∨ a = 85) → q < 192 → q / 24 ≠ s → i < 8 → T' a (8 * q + i) = T a (8 * q + i)) : XT T' := by
  have hvp : ∀ p, VP T' p → p / 24 ≠ s → VP T p := by
    intro p hp h
    unfold VP at *
    rw [(e3 _ (by omega) h).1] at hp
    exact hp
  have hvp2 : ∀ p q, p / 24 ≠ s → q / 24 = p / 24 → VP T q → VP T' q := by
    intro p q h1 h2 hq
    unfold VP at *
    rw [(e3 _ (by omega) (by omega)).1]
    exact hq
  refine ⟨⟨fun a ha => ?_, fun p hp => ?_⟩, fun a ha => ?_⟩
  · by_cases h : a = s
    · subst h
      omega
    · have z := e3 a ha h
      rw [z.1, z.2]
      exact X.1.1 a ha
  · by_cases h : p / 24 = s
    · have hp2 := hp.2
      rw [h, e1.1] at hp2
      have := hW (p % 24) (by omega)
      rw [show 24 * s + p % 24 = p by omega] at this
      exact this
    · have hp1 := hp.1
      have w := X.1.2 p (hvp p hp h)
      have ee : ∀ a, ((19 ≤ a ∧ a ≤ 24) ∨ (79 ≤ a ∧ a ≤ 84)) → T' a p = T a p := fun a x => e4 a p x hp1 h
      obtain ⟨w1, w2, w3, w4, w5, w6, w7, w8, w9, w10, w11, w12, w13⟩ := w
      unfold WFp
      rw [ee 19 (by omega), ee 20 (by omega), ee 21 (by omega), ee 22 (by omega), ee 23 (by omega), ee 24 (by omega), ee 79 (by omega), ee 80 (by omega), ee 81 (by omega), ee 82 (by omega), ee 83 (by omega), ee 84 (by omega)]
      refine ⟨w1, w2, w3, w4, fun z => ⟨(w5 z).1, (w5 z).2.1, fun i hi => ?_⟩, w6, w7, w8, w9, w10, w11, fun z => ⟨hvp2 p _ h (w12 z).2 (w12 z).1, (w12 z).2⟩, fun z => ?_⟩
      · have := (w5 z).2.1
        rw [e5 85 p i (by omega) hp1 h (by omega), e5 25 p i (by omega) hp1 h (by omega)]
        exact (w5 z).2.2 i hi
      · have a := w12 (by omega)
        rw [e4 23 (p + 1) (by omega) a.1.1 (by omega)]
        exact ⟨hvp2 p _ h (w13 z).2 (w13 z).1, (w13 z).2⟩
  · by_cases h : a = s
    · subst h
      exact hP
    · have w := X.2 a ha
      have z := e3 a ha h
      have x := X.1.1 a ha
      rcases w with ⟨w1, w2⟩ | w
      · left
        rw [z.1]
        refine ⟨?_, fun k hk h2 i hi => ?_⟩
        · rw [sm_congr (f := fun k => tk T' (24 * a + k)) (g := fun k => tk T (24 * a + k)) (T 18 a).toNat (fun k hk => ?_)]
          · exact w1
          · have hd : (24 * a + k) / 24 = a := by omega
            unfold tk
            rw [e4 19 _ (by omega) (by omega) (by omega), e4 24 _ (by omega) (by omega) (by omega)]
        · rw [e4 19 _ (by omega) (by omega) (by omega)] at h2
          rw [e4 24 _ (by omega) (by omega) (by omega)] at hi
          have hv : VP T (24 * a + k) := ⟨by omega, by rw [(sk (by omega)).1, (sk (by omega)).2]; exact hk⟩
          have := (X.1.2 _ hv).2.2.2.2.1 h2
          rw [e5 25 _ i (by omega) (by omega) (by omega) (by omega)]
          exact w2 k hk h2 i hi
      · right
        rw [z.1, e4 19 _ (by omega) (by omega) (by omega)]
        exact w
/-- a part as it was read is well formed in its text -/
theorem WFp.put {T c r : St} {s n q : Nat} (hs : s < 8) (hq : q < n) (hn : n ≤ 24) (e18 : T 18 s = n) (A : T 19 (24 * s + q) = c 4 q ∧ T 20 (24 * s + q) = c 5 q ∧ T 21 (24 * s + q) = c 6 q ∧ T 22 (24 * s + q) = c 7 q ∧ T 24 (24 * s + q) = c 9 q) (A5 : ∀ l, l < 8 → T 25 (8 * (24 * s + q) + l) = c 10 (8 * q + l)) (B : T 79 (24 * s + q) = r 95 q ∧ T 80 (24 * s + q) = r 96 q ∧ T 81 (24 * s + q) = r 97 q ∧ T 82 (24 * s + q) = r 98 q ∧ T 83 (24 * s + q) = r 99 q ∧ T 84 (24 * s + q) = r 100 q) (B5 : ∀ l, l < 8 → T 85 (8 * (24 * s + q) + l) = r 101 (8 * q + l)) (e23 : ∀ p, p < n → T 23 (24 * s + p) = (sp97 r p : Nat)) (R : RWS 0 n c r) : WFp T (24 * s + q) := by
  obtain ⟨pk, k4, S, h97⟩ := R q (by omega) hq
  obtain ⟨p1, ko, p3, p4⟩ := pk
  obtain ⟨a1, a2, a3, a4, a6⟩ := A
  obtain ⟨b1, b2, b3, b4, b5, b6⟩ := B
  have t23 := e23 q hq
  have hsp : ((sp97 r q : Nat) : Int) = r 97 q := by
    unfold sp97
    omega
  have nk := nro_c k4
  unfold SPN at S
  unfold KO at ko
  obtain ⟨ko1, ko2, ko3, ko4, ko5, ko6, ko7, ko8, ko9, ko10⟩ := ko
  have vp : ∀ p, p < n → VP T (24 * s + p) := fun p hp => ⟨by omega, by rw [(sk (by omega)).1, (sk (by omega)).2, e18]; omega⟩
  unfold WFp
  rw [a1, a2, a3, a4, a6, b1, b2, b3, b4, b5, b6, t23]
  refine ⟨⟨p1.1, p1.2.1, hsp.symm, p1.2.2.2, k4.1, k4.2, by omega, by omega⟩, fun _ => ⟨p1.2.2.1, ko1, ko2⟩, ko3, p3, fun y => ⟨(ko4 y).1, (ko4 y).2, fun i hi => ?_⟩, ko5, ko6, ko7, ko8, ko9, ko10, fun y => ?_, fun y => ?_⟩
  · have := ko4 y
    rw [A5 i (by omega), B5 i (by omega)]
    exact (p4 y i hi).1
  · have q1 : q + 1 < n := by
      rcases S.2.2 with ⟨y1, _⟩ | ⟨_, y2, _⟩ | ⟨_, y2, _⟩
      · by_cases y67 : c 4 q = 6 ∨ c 4 q = 7
        · have := nk.2.1 y67
          omega
        · have := nk.2.2 (by omega) y67
          omega
      · exact y2
      · exact y2
    exact ⟨vp (q + 1) q1, by omega⟩
  · have n2 := nk.2.1 y
    rcases S.2.2 with ⟨y1, _⟩ | ⟨y1, _⟩ | ⟨_, y2, y3, _⟩
    · omega
    · omega
    · rw [show 24 * s + q + 1 = 24 * s + (q + 1) by omega, e23 (q + 1) y2, Int.toNat_natCast, show 24 * s + (q + 1) + sp97 r (q + 1) = 24 * s + (q + 1 + sp97 r (q + 1)) by omega]
      exact ⟨vp _ y3, by omega⟩
theorem tk_tkc {T : St} {p : Nat} : tk T p = tkc (T 19 p) (T 24 p) := rfl
