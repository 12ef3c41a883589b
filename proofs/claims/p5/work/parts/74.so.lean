/-- whether a sheet's numbers are a stream's -/
theorem L_soL {N : Nat} {T : St} (hN : 100 ≤ N) {s h n : Nat} (hs : s < 8) (hne : T 18 s ≠ 0) (hh : h < 4) (hn : n ≤ 40) (c0 r0 : St) (g1 : c0 53 h = n) (g2 : r0 128 h = n) (g3 : ∀ i : Nat, i < n → c0 54 (h * 40 + i) = r0 129 (h * 40 + i)) : ∀ (k m : Nat) (c r : St) (j : Nat), j + k = n → k + 2 < m → TI 38 T c r → Mo 38 192 c0 c → Fm r0 r →
    ∃ c' r' v, d_x7_isToldBy_17L N m c (h : Int) (s : Int) (j : Int) = some (c', v) ∧ d_x8_isSo_26L N m r (h : Int) (s : Int) 1 (j : Int) = d_x8_isSo_86 N r' v ∧ TI 38 T c' r' ∧ Mo 38 192 c0 c' ∧ Fm r0 r' ∧ (v = 0 ∨ v = 1) := by
  have hg : 0 ≤ w32 (h : Int) ∧ w32 (h : Int) < ((4 : Nat) : Int) := (by ((try simp (disch := omega) only [w32i, Int.toNat_natCast]) <;> omega))
  intro k
  induction k with
  | zero =>
    intro m c r j hk hm H M F
    obtain ⟨m, rfl⟩ : ∃ m', m = m' + 1 := ⟨m - 1, by omega⟩
    have e5 : c 53 h = n := by rw [M.1 _ _ (by omega)]; exact g1
    have e8 : r 128 h = n := by rw [F.1 _ _ (by omega)]; exact g2
    refine ⟨c, r, 1, ?_, ?_, H, M, F, Or.inr rfl⟩
    · show d_x7_isToldBy_17 N (d_x7_isToldBy_17L N m) c h s j = _
      unfold d_x7_isToldBy_17
      rw [if_pos hg, w32i (x := (h : Int)) (by omega) (by omega), Int.toNat_natCast, e5, w32i (x := (j : Int)) (by omega) (by omega), w32i (x := (n : Int)) (by omega) (by omega), if_neg (by omega)]
    · show d_x8_isSo_26 N (d_x8_isSo_26L N m) r h s 1 j = _
      unfold d_x8_isSo_26
      rw [if_pos hg, w32i (x := (h : Int)) (by omega) (by omega), Int.toNat_natCast, e8, w32i (x := (j : Int)) (by omega) (by omega), w32i (x := (n : Int)) (by omega) (by omega), if_neg (by omega)]
  | succ k ih =>
    intro m c r j hk hm H M F
    obtain ⟨m, rfl⟩ : ∃ m', m = m' + 1 := ⟨m - 1, by omega⟩
    have e5 : c 53 h = n := by rw [M.1 _ _ (by omega)]; exact g1
    have e8 : r 128 h = n := by rw [F.1 _ _ (by omega)]; exact g2
    obtain ⟨c1, r1, v1, e1, e2, H1, M1, F1, A1, V1⟩ := L_out (Or.inr rfl) hN H hs hne (y := j) (by omega)
    have gv := A1.rng
    have M01 := M.trans M1
    have F01 := F.trans F1
    have ei : c1 54 (h * 40 + j) = r1 129 (h * 40 + j) := by rw [M01.1 _ _ (by omega), F01.1 _ _ (by omega)]; exact g3 j (by omega)
    have stop : d_x8_isSo_26L N m r1 (h : Int) (s : Int) 0 ((j : Int) + 1) = d_x8_isSo_86 N r1 0 := by
      obtain ⟨m, rfl⟩ : ∃ m', m = m' + 1 := ⟨m - 1, by omega⟩
      show d_x8_isSo_26 N (d_x8_isSo_26L N m) r1 h s 0 ((j : Int) + 1) = _
      unfold d_x8_isSo_26
      rw [if_pos hg, w32_0, if_pos (show (0 : Int) = 0 from rfl)]
      split <;> rfl
    have EC : d_x7_isToldBy_17L N (m + 1) c (h : Int) (s : Int) (j : Int) = (if v1 = 1 then (if w64 (c1 50 4) = w64 (c1 54 (h * 40 + j)) then d_x7_isToldBy_17L N m c1 (h : Int) (s : Int) ((j : Int) + 1) else some (c1, 0)) else some (c1, 0)) := by
      show d_x7_isToldBy_17 N (d_x7_isToldBy_17L N m) c h s j = _
      unfold d_x7_isToldBy_17 d_x3_read
      rw [if_pos hg, w32i (x := (h : Int)) (by omega) (by omega), Int.toNat_natCast, e5, w32i (x := (j : Int)) (by omega) (by omega), w32i (x := (n : Int)) (by omega) (by omega), if_pos (by omega), e1, bI_some, w32i (x := v1) (by omega) (by omega), w32i (x := (h : Int) * 40 + (j : Int)) (by omega) (by omega), if_pos (show 0 ≤ (h : Int) * 40 + (j : Int) ∧ (h : Int) * 40 + (j : Int) < ((160 : Nat) : Int) by omega), show ((h : Int) * 40 + (j : Int)).toNat = h * 40 + j by omega]
      rfl
    have ER : d_x8_isSo_26L N (m + 1) r (h : Int) (s : Int) 1 (j : Int) = (if v1 = 1 then (if w64 (r1 77 38) = w64 (r1 129 (h * 40 + j)) then d_x8_isSo_26L N m r1 (h : Int) (s : Int) 1 ((j : Int) + 1) else d_x8_isSo_26L N m r1 (h : Int) (s : Int) 0 ((j : Int) + 1)) else d_x8_isSo_26L N m r1 (h : Int) (s : Int) 0 ((j : Int) + 1)) := by
      show d_x8_isSo_26 N (d_x8_isSo_26L N m) r h s 1 j = _
      unfold d_x8_isSo_26 d_x8_isSo_77 d_x8_isSo_78
      rw [if_pos hg, w32i (x := (h : Int)) (by omega) (by omega), Int.toNat_natCast, e8, w32i (x := (j : Int)) (by omega) (by omega), w32i (x := (n : Int)) (by omega) (by omega), if_pos (by omega), w32_1, if_neg (show ¬ (1 : Int) = 0 by decide), e2, bI_some, w32i (x := v1) (by omega) (by omega), w32i (x := 40 * (h : Int) + (j : Int)) (by omega) (by omega), if_pos (show 0 ≤ 40 * (h : Int) + (j : Int) ∧ 40 * (h : Int) + (j : Int) < ((160 : Nat) : Int) by omega), show (40 * (h : Int) + (j : Int)).toNat = h * 40 + j by omega]
      rfl
    rw [EC, ER, stop]
    by_cases h1 : v1 = 1
    · rw [if_pos h1, if_pos h1, V1 h1, ei]
      by_cases h3 : w64 (r1 77 38) = w64 (r1 129 (h * 40 + j))
      · rw [if_pos h3, if_pos h3]
        exact ih m c1 r1 (j + 1) (by omega) (by omega) H1 M01 F01
      · rw [if_neg h3, if_neg h3]
        exact ⟨c1, r1, 0, rfl, rfl, H1, M01, F01, Or.inl rfl⟩
    · rw [if_neg h1, if_neg h1]
      exact ⟨c1, r1, 0, rfl, rfl, H1, M01, F01, Or.inl rfl⟩
/-- where a thought may begin: texts T, limit, sheet h of both -/
def TQ (T : St) (h n : Nat) (lim : Int) (c r : St) : Prop := (ct c T ∧ rt r T) ∧ (c 0 12 = lim ∧ r 77 9 = lim) ∧ (c 53 h = n ∧ r 128 h = n ∧ ∀ i : Nat, i < n → c 54 (h * 40 + i) = r 129 (h * 40 + i))
/-- the thought itself: class from c (thought ready), model from r1 (laid aside, ready), r is what was laid aside -/
theorem L_so {N : Nat} {T : St} (hN : 20000 ≤ N) (W : WT T) {s h n : Nat} (hs : s < 8) (hne : T 18 s ≠ 0) (hh : h < 4) (hn : n ≤ 40) {lim : Int} (hl : 0 ≤ lim ∧ lim ≤ 99) {c r r1 : St} (q : TQ T h n lim c r1) (S : TS 38 T c r1) (M : MT 38 T c) (I : ID 38 c)
    (a1 : ∀ q, q < 192 → r1 103 q = r 86 q ∧ r1 104 q = r 87 q ∧ r1 105 q = r 89 q ∧ r1 106 q = r 90 q) (a2 : ∀ q, q < 12288 → r1 107 q = r 91 q ∧ r1 108 q = r 92 q ∧ r1 109 q = r 93 q) :
    ∃ c' r' v, d_x7_isToldBy N c (h : Int) (s : Int) = some (c', v) ∧ d_x8_isSo_12 N r1 (h : Int) (s : Int) = some (r', v) ∧ (v = 0 ∨ v = 1) ∧ UT 38 c' ∧ RS r r' ∧ (∀ a k, ¬ (a = 50 ∨ (38 ≤ a ∧ a ≤ 49)) → c' a k = c a k) ∧ (∀ a k, ¬ (a = 77 ∨ (86 ≤ a ∧ a ≤ 93)) → r' a k = r1 a k) ∧ (∀ k, k ≠ 36 → k ≠ 37 → k ≠ 38 → r' 77 k = r1 77 k) := by
  obtain ⟨⟨q1, q2⟩, ⟨q3, q4⟩, q5, q6, q7⟩ := q
  have TB := T_begin (c := c) (r := r) W q1 q2 S M (lim := lim) (lim' := lim) hl rfl
  obtain ⟨c2, r2, v2, e1, e2, H2, M2, F2, V2⟩ := L_soL (N := N) (by omega) hs hne hh hn (up (up (up c 50 1 ((38 : Nat) : Int)) 50 2 lim) 50 3 0) (up (up r1 77 36 0) 77 37 lim) (by rw [up_ne (by omega), up_ne (by omega), up_ne (by omega)]; exact q5) (by rw [up_ne (by omega), up_ne (by omega)]; exact q6) (fun i hi => by rw [up_ne (by omega), up_ne (by omega), up_ne (by omega), up_ne (by omega), up_ne (by omega)]; exact q7 i hi) n N _ _ 0 (by omega) (by omega) TB Mo.refl Fm.refl
  obtain ⟨r3, w3, e3, b1, b2, er3⟩ := e_back8 hN r2
  refine ⟨c2, r3, v2, ?_, ?_, V2, UT.of H2.T H2.S, ⟨fun q hq => ?_, fun q hq => ?_⟩, fun a k z => ?_, fun a k z => ?_, fun k z y w => ?_⟩
  · unfold d_x7_isToldBy
    rw [q3, e_begin, bV_some]
    exact e1
  · unfold d_x8_isSo_12
    rw [q4]
    show d_x8_isSo_26L N N (up (up r1 77 36 0) 77 37 lim) (h : Int) (s : Int) 1 ((0 : Nat) : Int) = _
    rw [e2]
    unfold d_x8_isSo_86
    rw [e3, bV_some, if_pos V2]
  · have x := b1 q hq
    have y := a1 q hq
    have z : ∀ a, 103 ≤ a → a ≤ 109 → r2 a q = r1 a q := fun a _ _ => by rw [F2.1 a q (by omega), up_ne (by omega), up_ne (by omega)]
    rw [z 103 (by omega) (by omega), z 104 (by omega) (by omega), z 105 (by omega) (by omega), z 106 (by omega) (by omega), y.1, y.2.1, y.2.2.1, y.2.2.2] at x
    refine ⟨x.1, x.2.1, x.2.2.1, x.2.2.2, ?_⟩
    rw [er3 _ _ (by omega)]
    have w := H2.P hq
    unfold TP at w
    rw [w.2.2.2.2.1, (M2.2.2.2.1 q hq).2.1, up_ne (by omega), up_ne (by omega), up_ne (by omega)]
    exact (I q hq).1
  · have x := b2 q hq
    have y := a2 q hq
    have z : ∀ a, 103 ≤ a → a ≤ 109 → r2 a q = r1 a q := fun a _ _ => by rw [F2.1 a q (by omega), up_ne (by omega), up_ne (by omega)]
    rw [z 107 (by omega) (by omega), z 108 (by omega) (by omega), z 109 (by omega) (by omega), y.1, y.2.1, y.2.2] at x
    exact x
  · rw [M2.1 a k (by omega), up_ne (by omega), up_ne (by omega), up_ne (by omega)]
  · rw [er3 a k (by omega), F2.1 a k (by omega), up_ne (by omega), up_ne (by omega)]
  · rw [er3 _ _ (by omega), F2.2 k z w, up_nj (by omega), up_nj (by omega)]
/-- the class thinks with what is told, the model too -/
theorem L_so0 {N : Nat} {T : St} (hN : 20000 ≤ N) (W : WT T) {s h n : Nat} (hs : s < 8) (hne : T 18 s ≠ 0) (hh : h < 4) (hn : n ≤ 40) {lim : Int} (hl : 0 ≤ lim ∧ lim ≤ 99) {c r : St} (q : TQ T h n lim c r) (S : TS 26 T c r) (M : MT 26 T c) (I : ID 26 c) (U : UT 38 c) :
    ∃ c1 c' r' v w, d_x6_takeAll N 38 26 c = some (c1, w) ∧ d_x7_isToldBy N c1 (h : Int) (s : Int) = some (c', v) ∧ d_x8_isSo N r (h : Int) (s : Int) 0 = some (r', v) ∧ (v = 0 ∨ v = 1) ∧ UT 38 c' ∧ RS r r' ∧ (∀ a k, ¬ (a = 50 ∨ (38 ≤ a ∧ a ≤ 49)) → c' a k = c a k) ∧ (∀ a k, ¬ (a = 77 ∨ (86 ≤ a ∧ a ≤ 93) ∨ (103 ≤ a ∧ a ≤ 109)) → r' a k = r a k) ∧ (∀ k, k ≠ 36 → k ≠ 37 → k ≠ 38 → r' 77 k = r 77 k) := by
  obtain ⟨c1, w, e1, C1, ec1⟩ := e_take (N := N) (t := 38) (t2 := 26) (by omega) (by omega) U (UT.of M S)
  obtain ⟨r1, w', e2, a1, a2, er1⟩ := e_aside hN r
  have hrs : RS r r := RS.refl S I
  have hts := C1.ts S M (r' := r1) (fun a k _ _ _ _ _ => er1 a k (by omega)) (fun p hp => by rw [er1 _ _ (by omega)]; exact (hrs.1 p hp).2.2.2.2) (fun p hp => (I p hp).1)
  have hid : ID 38 c1 := fun p hp => ⟨(C1.2.2.1 p hp).2.2.2.1, fun i hi => by rw [(C1.2.2.1 p hp).2.2.2.2.2.2.2.1 i hi]; exact (I p hp).2 i hi⟩
  obtain ⟨⟨q1, q2⟩, ⟨q3, q4⟩, q5, q6, q7⟩ := q
  obtain ⟨c2, r2, v2, f1, f2, V2, U2, R2, ec2, er2, er7⟩ := L_so hN W hs hne hh hn hl (c := c1) (r := r) (r1 := r1) ⟨⟨fun a k x y => (ec1 a k (by omega)).trans (q1 a k x y), fun a k x y => (er1 a k (by omega)).trans (q2 a k x y)⟩, ⟨(ec1 _ _ (by omega)).trans q3, (er1 _ _ (by omega)).trans q4⟩, (ec1 _ _ (by omega)).trans q5, (er1 _ _ (by omega)).trans q6, fun i hi => by rw [ec1 _ _ (by omega), er1 _ _ (by omega)]; exact q7 i hi⟩ hts.1 hts.2 hid a1 a2
  refine ⟨c1, c2, r2, v2, w, e1, f1, ?_, V2, U2, R2, fun a k z => (ec2 a k z).trans (ec1 a k (by omega)), fun a k z => (er2 a k (by omega)).trans (er1 a k (by omega)), fun k z y x => (er7 k z y x).trans (er1 _ _ (by omega))⟩
  unfold d_x8_isSo
  rw [e2, bV_some, w32_0, if_pos rfl]
  exact f2
/-- both think anew -/
theorem L_so1 {N : Nat} {T : St} (hN : 20000 ≤ N) (W : WT T) {s h n : Nat} (hs : s < 8) (hne : T 18 s ≠ 0) (hh : h < 4) (hn : n ≤ 40) {lim : Int} (hl : 0 ≤ lim ∧ lim ≤ 99) {c r : St} (q : TQ T h n lim c r) (U : UT 38 c) :
    ∃ c1 c' r' v w, d_x6_untell N 38 c = some (c1, w) ∧ d_x7_isToldBy N c1 (h : Int) (s : Int) = some (c', v) ∧ d_x8_isSo N r (h : Int) (s : Int) 1 = some (r', v) ∧ (v = 0 ∨ v = 1) ∧ UT 38 c' ∧ RS r r' ∧ (∀ a k, ¬ (a = 50 ∨ (38 ≤ a ∧ a ≤ 49)) → c' a k = c a k) ∧ (∀ a k, ¬ (a = 77 ∨ (86 ≤ a ∧ a ≤ 93) ∨ (103 ≤ a ∧ a ≤ 109)) → r' a k = r a k) ∧ (∀ k, k ≠ 36 → k ≠ 37 → k ≠ 38 → r' 77 k = r 77 k) := by
  obtain ⟨c1, w, e1, Z1, ec1, ec8, ec9⟩ := e_untell (N := N) (t := 38) (by omega) U
  obtain ⟨r0, w', e2, a1, a2, er0⟩ := e_aside hN r
  obtain ⟨r1, w'', e3, Z2, er1⟩ := e_untells (N := N) (by omega) r0
  have hkb : KB 38 c1 := fun k hk => by rw [ec9]; exact U.2.2.2.1 k hk
  have hts := Z1.ts (T := T) Z2 hkb
  have hid : ID 38 c1 := fun p hp => ⟨(Z1.2 p hp).2.2.2.1, fun i hi => by rw [(Z1.2 p hp).2.2.2.2.2.2.2 i hi]; decide⟩
  have er : ∀ a k, ¬ ((86 ≤ a ∧ a ≤ 91) ∨ (103 ≤ a ∧ a ≤ 109)) → r1 a k = r a k := fun a k z => (er1 a k (by omega)).trans (er0 a k (by omega))
  obtain ⟨⟨q1, q2⟩, ⟨q3, q4⟩, q5, q6, q7⟩ := q
  obtain ⟨c2, r2, v2, f1, f2, V2, U2, R2, ec2, er2, er7⟩ := L_so hN W hs hne hh hn hl (c := c1) (r := r) (r1 := r1) ⟨⟨fun a k x y => (ec1 a k (by omega)).trans (q1 a k x y), fun a k x y => (er a k (by omega)).trans (q2 a k x y)⟩, ⟨(ec1 _ _ (by omega)).trans q3, (er _ _ (by omega)).trans q4⟩, (ec1 _ _ (by omega)).trans q5, (er _ _ (by omega)).trans q6, fun i hi => by rw [ec1 _ _ (by omega), er _ _ (by omega)]; exact q7 i hi⟩ hts.1 hts.2 hid (fun q hq => by rw [er1 _ _ (by omega), er1 _ _ (by omega), er1 _ _ (by omega), er1 _ _ (by omega)]; exact a1 q hq) (fun q hq => by rw [er1 _ _ (by omega), er1 _ _ (by omega), er1 _ _ (by omega)]; exact a2 q hq)
  refine ⟨c1, c2, r2, v2, w, e1, f1, ?_, V2, U2, R2, fun a k z => (ec2 a k z).trans (ec1 a k (by omega)), fun a k z => (er2 a k (by omega)).trans (er a k (by omega)), fun k z y x => (er7 k z y x).trans (er _ _ (by omega))⟩
  unfold d_x8_isSo
  rw [e2, bV_some, w32_1, if_neg (by decide), e3, bV_some]
  exact f2
