/-- texts alike on all that is there -/
def VA (T T' : St) : Prop := (∀ s, s < 8 → T' 18 s = T 18 s ∧ T' 78 s = T 78 s) ∧ (∀ p, VP T p → ∀ a, ((19 ≤ a ∧ a ≤ 24) ∨ (79 ≤ a ∧ a ≤ 84)) → T' a p = T a p) ∧ (∀ p, VP T p → ∀ i, i < 8 → T' 25 (8 * p + i) = T 25 (8 * p + i) ∧ T' 85 (8 * p + i) = T 85 (8 * p + i))
theorem VA.vp {T T' : St} (V : VA T T') {p : Nat} : VP T' p ↔ VP T p := by
  unfold VP
  constructor
  · rintro ⟨h1, h2⟩
    rw [(V.1 _ (by omega)).1] at h2
    exact ⟨h1, h2⟩
  · rintro ⟨h1, h2⟩
    refine ⟨h1, ?_⟩
    rw [(V.1 _ (by omega)).1]
    exact h2
theorem VA.rs {T T' : St} (V : VA T T') (W : WT T) : ∀ n p, VP T p → rs T' n p = rs T n p := by
  intro n
  induction n with
  | zero => intro p _; rfl
  | succ n ih =>
    intro p hp
    show (if T' 19 p = 0 then _ else _) = (if T 19 p = 0 then _ else _)
    rw [V.2.1 p hp 19 (by omega)]
    by_cases h : T 19 p = 0
    · have w := (W.2 p hp).2.2.1 h
      rw [if_pos h, if_pos h, V.2.1 p hp 21 (by omega), (V.1 _ (by omega)).1]
      by_cases h2 : T 18 (T 21 p).toNat = 0
      · rw [if_pos h2, if_pos h2]
      · rw [if_neg h2, if_neg h2]
        exact ih _ (VP.str W (by omega) h2)
    · rw [if_neg h, if_neg h]
theorem VA.wt {T T' : St} (V : VA T T') (W : WT T) : WT T' := by
  refine ⟨fun s hs => by rw [(V.1 s hs).1, (V.1 s hs).2]; exact W.1 s hs, fun p hp' => ?_⟩
  have hp := V.vp.mp hp'
  have w := W.2 p hp
  have ee := V.2.1 p hp
  obtain ⟨w1, w2, w3, w4, w5, w6, w7, w8, w9, w10, w11, w12, w13⟩ := w
  unfold WFp
  rw [ee 19 (by omega), ee 20 (by omega), ee 21 (by omega), ee 22 (by omega), ee 23 (by omega), ee 24 (by omega), ee 79 (by omega), ee 80 (by omega), ee 81 (by omega), ee 82 (by omega), ee 83 (by omega), ee 84 (by omega)]
  refine ⟨w1, w2, w3, w4, fun z => ⟨(w5 z).1, (w5 z).2.1, fun i hi => ?_⟩, w6, w7, w8, w9, w10, w11, fun z => ⟨V.vp.mpr (w12 z).1, (w12 z).2⟩, fun z => ?_⟩
  · have := (w5 z).2.1
    have e := V.2.2 p hp i (by omega)
    rw [e.1, e.2]
    exact (w5 z).2.2 i hi
  · rw [V.2.1 _ (w12 (by omega)).1 23 (by omega)]
    exact ⟨V.vp.mpr (w13 z).1, (w13 z).2⟩
theorem VA.xt {T T' : St} (V : VA T T') (X : XT T) : XT T' := by
  refine ⟨V.wt X.1, fun s hs => ?_⟩
  have x := X.1.1 s hs
  have hv : ∀ k : Nat, (k : Int) < T 18 s → VP T (24 * s + k) := fun k hk => ⟨by omega, by rw [(sk (by omega)).1, (sk (by omega)).2]; exact hk⟩
  rcases X.2 s hs with ⟨w1, w2⟩ | w
  · left
    rw [(V.1 s hs).1]
    refine ⟨?_, fun k hk h2 i hi => ?_⟩
    · rw [sm_congr (f := fun k => tk T' (24 * s + k)) (g := fun k => tk T (24 * s + k)) (T 18 s).toNat (fun k hk => ?_)]
      · exact w1
      · have v := hv k (by omega)
        unfold tk
        rw [V.2.1 _ v 19 (by omega), V.2.1 _ v 24 (by omega)]
    · have v := hv k hk
      rw [V.2.1 _ v 19 (by omega)] at h2
      rw [V.2.1 _ v 24 (by omega)] at hi
      have := (X.1.2 _ v).2.2.2.2.1 h2
      rw [(V.2.2 _ v i (by omega)).1]
      exact w2 k hk h2 i hi
  · right
    have v := hv 0 (by omega)
    rw [(V.1 s hs).1]
    have e := V.2.1 _ v 19 (by omega)
    rw [Nat.add_zero] at e
    rw [e]
    exact w
theorem VA.mt {t : Nat} {T T' c : St} (V : VA T T') (M : MT t T c) : MT t T' c := by
  refine ⟨M.1, M.2.1, M.2.2.1, M.2.2.2.1, fun p hp => ?_⟩
  rcases M.2.2.2.2 p hp with z | ⟨z1, z2, z3⟩
  · exact Or.inl z
  · exact Or.inr ⟨z1, V.vp.mpr z2, z3⟩
theorem VA.ts {t : Nat} {T T' c r : St} (V : VA T T') (W : WT T) (S : TS t T c r) : TS t T' c r := by
  have td : ∀ (q : Nat) (x : Int), VP T q → Td t T c q x → Td t T' c q x := by
    intro q x hq h
    obtain ⟨q', a1, a2, a3, a4⟩ := h
    refine ⟨q', ?_, a2, a3, a4⟩
    unfold res at *
    rw [V.rs W 9 q hq]
    exact a1
  refine ⟨S.1, S.2.1, fun p hp' => ?_, fun p i hp' hi => ?_, S.2.2.2.2.1, S.2.2.2.2.2⟩
  · have hp := V.vp.mp hp'
    have y := S.2.2.1 p hp
    unfold TN NX at *
    rw [V.2.1 p hp 19 (by omega)]
    exact y
  · have hp := V.vp.mp hp'
    have w := W.2 p hp
    have y := S.2.2.2.1 p i hp hi
    obtain ⟨y1, y2⟩ := y
    have e19 := V.2.1 p hp 19 (by omega)
    have e21 := V.2.1 p hp 21 (by omega)
    have e24 := V.2.1 p hp 24 (by omega)
    have v1 : 3 ≤ T 19 p → VP T (p + 1) := fun z => (w.2.2.2.2.2.2.2.2.2.2.2.1 z).1
    have v2 : T 19 p = 6 ∨ T 19 p = 7 → VP T (p + 1 + (T 23 (p + 1)).toNat) := fun z => (w.2.2.2.2.2.2.2.2.2.2.2.2 z).1
    have e23 : 3 ≤ T 19 p → T' 23 (p + 1) = T 23 (p + 1) := fun z => V.2.1 _ (v1 z) 23 (by omega)
    refine ⟨?_, ?_⟩
    · unfold KP at *
      rw [e19]
      exact y1
    · obtain ⟨a1, a2, a3, a4, a5, a6, a7, a8⟩ := y2
      unfold SO
      rw [e19, e21, e24]
      refine ⟨fun z => td _ _ (v1 (by omega)) (a1 z), fun z => ?_, fun z => td _ _ (v1 (by omega)) (a3 z), fun z y => td _ _ (v1 (by omega)) (a4 z y), fun z => td _ _ (v1 (by omega)) (a5 z), fun z => td _ _ (v1 (by omega)) (a6 z), fun z => ⟨fun y => td _ _ (v1 (by omega)) ((a7 z).1 y), fun y => ?_⟩, a8⟩
      · rw [e23 (by omega)]
        exact td _ _ (v2 (by omega)) (a2 z)
      · rw [e23 (by omega)]
        exact td _ _ (v2 (by omega)) ((a7 z).2 y)
/-- texts of t2 have come to t: stream s -/
theorem e_tkS {t t2 N : Nat} {c : St} (ht : t + 8 < t2 ∨ t2 + 8 < t) {s n : Nat} (hs : s < 8) (hn : c (t2 + 1) s = n) (h24 : n ≤ 24) : One (d_x5_takeStream N t 8 t2 8 c (s : Int) (s : Int)) (fun d _ => (∀ a k, ¬ (t + 1 ≤ a ∧ a ≤ t + 8) → d a k = c a k) ∧ d (t + 1) s = n ∧ (∀ k, k ≠ s → d (t + 1) k = c (t + 1) k) ∧ (∀ j q, 2 ≤ j → j ≤ 7 → d (t + j) q = if 24 * s ≤ q ∧ q < 24 * s + n then c (t2 + j) q else c (t + j) q) ∧ (∀ q, d (t + 8) q = if 8 * (24 * s) ≤ q ∧ q < 8 * (24 * s) + 8 * n then c (t2 + 8) q else c (t + 8) q)) := by
  unfold d_x5_takeStream
  have hg : 0 ≤ w32 (s : Int) ∧ w32 (s : Int) < ((8 : Nat) : Int) := (by ((try simp (disch := omega) only [w32i, Int.toNat_natCast]) <;> omega))
  refine One.i hg (One.i hg (One.bd (One.i hg ?_)))
  rw [w32i (x := (s : Int)) (by omega) (by omega), Int.toNat_natCast, hn, up_same]
  unfold d_x5_takeParts
  have g : 0 ≤ w32 (n : Int) ∧ 0 ≤ w32 ((s : Int) * 24) ∧ 0 ≤ w32 ((s : Int) * 24) ∧ w32 ((s : Int) * 24) + w32 (n : Int) ≤ ((8 * 24 : Nat) : Int) ∧ w32 ((s : Int) * 24) + w32 (n : Int) ≤ ((8 * 24 : Nat) : Int) := (by ((try simp (disch := omega) only [w32i, Int.toNat_natCast]) <;> omega))
  have g8 : 0 ≤ w32 ((n : Int) * 8) ∧ 0 ≤ w32 ((s : Int) * 24 * 8) ∧ 0 ≤ w32 ((s : Int) * 24 * 8) ∧ w32 ((s : Int) * 24 * 8) + w32 ((n : Int) * 8) ≤ ((8 * 192 : Nat) : Int) ∧ w32 ((s : Int) * 24 * 8) + w32 ((n : Int) * 8) ≤ ((8 * 192 : Nat) : Int) := (by ((try simp (disch := omega) only [w32i, Int.toNat_natCast]) <;> omega))
  simp only [if_pos g, if_pos g8, bd_eq]
  rw [w32i (x := (n : Int)) (by omega) (by omega), w32i (x := (s : Int) * 24) (by omega) (by omega), w32i (x := (n : Int) * 8) (by omega) (by omega), w32i (x := (s : Int) * 24 * 8) (by omega) (by omega), Int.toNat_natCast, show ((s : Int) * 24).toNat = 24 * s by omega, show ((n : Int) * 8).toNat = 8 * n by omega, show ((s : Int) * 24 * 8).toNat = 8 * (24 * s) by omega]
  refine One.v rfl (One.ret ⟨fun a k z => ?_, ?_, fun k hk => ?_, fun j q h1 h2 => ?_, fun q => ?_⟩)
  · simp (disch := omega) only [cp_ne, up_ne]
  · simp (disch := omega) only [cp_ne, up_same]
  · simp (disch := omega) only [cp_ne, up_nj]
  · have : j = 2 ∨ j = 3 ∨ j = 4 ∨ j = 5 ∨ j = 6 ∨ j = 7 := by omega
    by_cases e : 24 * s ≤ q ∧ q < 24 * s + n
    · obtain ⟨x, rfl⟩ : ∃ x, q = 24 * s + x := ⟨q - 24 * s, by omega⟩
      have hx : x < n := by omega
      rw [if_pos e]
      rcases this with rfl | rfl | rfl | rfl | rfl | rfl <;> simp (disch := omega) only [cp_ne, cp_at, up_ne]
    · rw [if_neg e]
      rcases this with rfl | rfl | rfl | rfl | rfl | rfl <;> simp (disch := omega) only [cp_ne, cp_o, up_ne]
  · by_cases e : 8 * (24 * s) ≤ q ∧ q < 8 * (24 * s) + 8 * n
    · obtain ⟨x, rfl⟩ : ∃ x, q = 8 * (24 * s) + x := ⟨q - 8 * (24 * s), by omega⟩
      rw [if_pos e, cp_at (by omega)]
      simp (disch := omega) only [cp_ne, up_ne]
    · rw [if_neg e, cp_o (by omega)]
      simp (disch := omega) only [cp_ne, up_ne]
theorem e_tkL {t t2 N : Nat} {c : St} (ht : t + 8 < t2 ∨ t2 + 8 < t) (h24 : ∀ s : Nat, s < 8 → 0 ≤ c (t2 + 1) s ∧ c (t2 + 1) s ≤ 24) : ∀ (k m : Nat) (d : St) (j : Nat), j + k = 8 → k < m → (∀ a k, ¬ (t + 1 ≤ a ∧ a ≤ t + 8) → d a k = c a k) → (∀ s, s < j → d (t + 1) s = c (t2 + 1) s ∧ (∀ x : Nat, (x : Int) < c (t2 + 1) s → (∀ i, 2 ≤ i → i ≤ 7 → d (t + i) (24 * s + x) = c (t2 + i) (24 * s + x)) ∧ ∀ i, i < 8 → d (t + 8) (8 * (24 * s + x) + i) = c (t2 + 8) (8 * (24 * s + x) + i))) →
    One (d_x5_takeAll_2L N t 8 t2 8 m d (j : Int)) (fun d' _ => (∀ a k, ¬ (t + 1 ≤ a ∧ a ≤ t + 8) → d' a k = c a k) ∧ ∀ s, s < 8 → d' (t + 1) s = c (t2 + 1) s ∧ (∀ x : Nat, (x : Int) < c (t2 + 1) s → (∀ i, 2 ≤ i → i ≤ 7 → d' (t + i) (24 * s + x) = c (t2 + i) (24 * s + x)) ∧ ∀ i, i < 8 → d' (t + 8) (8 * (24 * s + x) + i) = c (t2 + 8) (8 * (24 * s + x) + i))) := by
  intro k
  induction k with
  | zero =>
    intro m d j hj hm h1 h2
    obtain ⟨m, rfl⟩ : ∃ m', m = m' + 1 := ⟨m - 1, by omega⟩
    show One (d_x5_takeAll_2 N t 8 t2 8 (d_x5_takeAll_2L N t 8 t2 8 m) d j) _
    unfold d_x5_takeAll_2
    (repeat (first | with_reducible refine One.bd ?_ | (with_reducible refine One.i ?_ ?_; · ((try simp (disch := omega) only [w32i, Int.toNat_natCast]) <;> omega)) | (with_reducible refine One.e ?_ ?_; · ((try simp (disch := omega) only [w32i, Int.toNat_natCast]) <;> omega))))
    exact One.ret ⟨h1, fun s hs => h2 s (by omega)⟩
  | succ k ih =>
    intro m d j hj hm h1 h2
    obtain ⟨m, rfl⟩ : ∃ m', m = m' + 1 := ⟨m - 1, by omega⟩
    show One (d_x5_takeAll_2 N t 8 t2 8 (d_x5_takeAll_2L N t 8 t2 8 m) d j) _
    unfold d_x5_takeAll_2
    have hh := h24 j (by omega)
    obtain ⟨n, hn⟩ : ∃ n : Nat, c (t2 + 1) j = n := ⟨(c (t2 + 1) j).toNat, by omega⟩
    (repeat (first | with_reducible refine One.bd ?_ | (with_reducible refine One.i ?_ ?_; · ((try simp (disch := omega) only [w32i, Int.toNat_natCast]) <;> omega)) | (with_reducible refine One.e ?_ ?_; · ((try simp (disch := omega) only [w32i, Int.toNat_natCast]) <;> omega))))
    refine One.callV (e_tkS ht (s := j) (n := n) (by omega) (by rw [h1 _ _ (by omega)]; exact hn) (by omega)) (fun d' v q => ?_)
    obtain ⟨q1, q2, q3, q4, q5⟩ := q
    refine One.bd ?_
    refine ih m d' (j + 1) (by omega) (by omega) (fun a k z => (q1 a k z).trans (h1 a k z)) (fun s hs => ?_)
    by_cases e : s = j
    · subst e
      refine ⟨by rw [q2, hn], fun x hx => ⟨fun i i1 i2 => ?_, fun i hi => ?_⟩⟩
      · rw [q4 i _ i1 i2, if_pos (by omega)]
        exact h1 _ _ (by omega)
      · rw [q5, if_pos (by omega)]
        exact h1 _ _ (by omega)
    · have o := h2 s (by omega)
      refine ⟨by rw [q3 s e]; exact o.1, fun x hx => ⟨fun i i1 i2 => ?_, fun i hi => ?_⟩⟩
      · have hs' := h24 s (by omega)
        rw [q4 i _ i1 i2, if_neg (by omega)]
        exact (o.2 x hx).1 i i1 i2
      · have hs' := h24 s (by omega)
        rw [q5, if_neg (by omega)]
        exact (o.2 x hx).2 i hi
theorem e_tkA {t t2 N : Nat} (hN : 100 ≤ N) {c : St} (ht : t + 8 < t2 ∨ t2 + 8 < t) (h24 : ∀ s : Nat, s < 8 → 0 ≤ c (t2 + 1) s ∧ c (t2 + 1) s ≤ 24) : One (d_x5_takeAll N t 8 t2 8 c) (fun d' _ => (∀ a k, ¬ (t + 1 ≤ a ∧ a ≤ t + 8) → d' a k = c a k) ∧ ∀ s, s < 8 → d' (t + 1) s = c (t2 + 1) s ∧ (∀ x : Nat, (x : Int) < c (t2 + 1) s → (∀ i, 2 ≤ i → i ≤ 7 → d' (t + i) (24 * s + x) = c (t2 + i) (24 * s + x)) ∧ ∀ i, i < 8 → d' (t + 8) (8 * (24 * s + x) + i) = c (t2 + 8) (8 * (24 * s + x) + i))) := by
  unfold d_x5_takeAll
  exact e_tkL ht h24 8 N c 0 (by omega) (by omega) (fun _ _ _ => rfl) (fun s hs => by omega)
