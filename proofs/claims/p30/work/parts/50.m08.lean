section
/-- whether a sheet's numbers are a stream's -/
theorem L_soL {N : Nat} {T : St} (hN : 100 ≤ N) {s h n : Nat} (hs : s < 8) (hne : T 18 s ≠ 0) (hh : h < 4) (hn : n ≤ 40) (c0 r0 : St) (g1 : c0 53 h = n) (g2 : r0 128 h = n) (g3 : ∀ i : Nat, i < n → c0 54 (h * 40 + i) = r0 129 (h * 40 + i)) : ∀ (k m : Nat) (c r : St) (j : Nat), j + k = n → k + 2 < m → TI 38 T c r → Mo 38 192 c0 c → Fm r0 r →
    ∃ c' r' v, d_x7_isToldBy_17L N m c (h : Int) (s : Int) (j : Int) = some (c', v) ∧ d_x8_isSo_26L N m r (h : Int) (s : Int) 1 (j : Int) = d_x8_isSo_86 N r' v ∧ TI 38 T c' r' ∧ Mo 38 192 c0 c' ∧ Fm r0 r' ∧ (v = 0 ∨ v = 1) := by
  have hg : 0 ≤ w32 (h : Int) ∧ w32 (h : Int) < ((4 : Nat) : Int) := (by ((try simp (disch := omega) only [w32i, Int.toNat_natCast]) <;> omega))
  intro k
  induction k with
  | zero =>
    intro m c r j hk hm H M F
    obtain ⟨m, rfl⟩ : ∃ m', m = m' + 1 := ⟨m - 1, by omega⟩
    have e5 : c 53 h = n := by rw [M.1 _ _ (by omega)]; exact g1
    have e8 : r 128 h = n := by rw [F.1 _ _ (by omega)]; exact g2
    refine ⟨c, r, 1, ?_, ?_, H, M, F, Or.inr rfl⟩
    · show d_x7_isToldBy_17 N (d_x7_isToldBy_17L N m) c h s j = _
      unfold d_x7_isToldBy_17
      rw [if_pos hg, w32i (x := (h : Int)) (by omega) (by omega), Int.toNat_natCast, e5, w32i (x := (j : Int)) (by omega) (by omega), w32i (x := (n : Int)) (by omega) (by omega), if_neg (by omega)]
    · show d_x8_isSo_26 N (d_x8_isSo_26L N m) r h s 1 j = _
      unfold d_x8_isSo_26
      rw [if_pos hg, w32i (x := (h : Int)) (by omega) (by omega), Int.toNat_natCast, e8, w32i (x := (j : Int)) (by omega) (by omega), w32i (x := (n : Int)) (by omega) (by omega), if_neg (by omega)]
  | succ k ih =>
    intro m c r j hk hm H M F
    obtain ⟨m, rfl⟩ : ∃ m', m = m' + 1 := ⟨m - 1, by omega⟩
    have e5 : c 53 h = n := by rw [M.1 _ _ (by omega)]; exact g1
    have e8 : r 128 h = n := by rw [F.1 _ _ (by omega)]; exact g2
    obtain ⟨c1, r1, v1, e1, e2, H1, M1, F1, A1, V1⟩ := L_out (Or.inr rfl) hN H hs hne (y := j) (by omega)
    have gv := A1.rng
    have M01 := M.trans M1
    have F01 := F.trans F1
    have ei : c1 54 (h * 40 + j) = r1 129 (h * 40 + j) := by rw [M01.1 _ _ (by omega), F01.1 _ _ (by omega)]; exact g3 j (by omega)
    have stop : d_x8_isSo_26L N m r1 (h : Int) (s : Int) 0 ((j : Int) + 1) = d_x8_isSo_86 N r1 0 := by
      obtain ⟨m, rfl⟩ : ∃ m', m = m' + 1 := ⟨m - 1, by omega⟩
      show d_x8_isSo_26 N (d_x8_isSo_26L N m) r1 h s 0 ((j : Int) + 1) = _
      unfold d_x8_isSo_26
      rw [if_pos hg, w32_0, if_pos (show (0 : Int) = 0 from rfl)]
      split <;> rfl
    have EC : d_x7_isToldBy_17L N (m + 1) c (h : Int) (s : Int) (j : Int) = (if v1 = 1 then (if w64 (c1 50 4) = w64 (c1 54 (h * 40 + j)) then d_x7_isToldBy_17L N m c1 (h : Int) (s : Int) ((j : Int) + 1) else some (c1, 0)) else some (c1, 0)) := by
      show d_x7_isToldBy_17 N (d_x7_isToldBy_17L N m) c h s j = _
      unfold d_x7_isToldBy_17 d_x3_read
      rw [if_pos hg, w32i (x := (h : Int)) (by omega) (by omega), Int.toNat_natCast, e5, w32i (x := (j : Int)) (by omega) (by omega), w32i (x := (n : Int)) (by omega) (by omega), if_pos (by omega), e1, bI_some, w32i (x := v1) (by omega) (by omega), w32i (x := (h : Int) * 40 + (j : Int)) (by omega) (by omega), if_pos (show 0 ≤ (h : Int) * 40 + (j : Int) ∧ (h : Int) * 40 + (j : Int) < ((160 : Nat) : Int) by omega), show ((h : Int) * 40 + (j : Int)).toNat = h * 40 + j by omega]
      rfl
    have ER : d_x8_isSo_26L N (m + 1) r (h : Int) (s : Int) 1 (j : Int) = (if v1 = 1 then (if w64 (r1 77 38) = w64 (r1 129 (h * 40 + j)) then d_x8_isSo_26L N m r1 (h : Int) (s : Int) 1 ((j : Int) + 1) else d_x8_isSo_26L N m r1 (h : Int) (s : Int) 0 ((j : Int) + 1)) else d_x8_isSo_26L N m r1 (h : Int) (s : Int) 0 ((j : Int) + 1)) := by
      show d_x8_isSo_26 N (d_x8_isSo_26L N m) r h s 1 j = _
      unfold d_x8_isSo_26 d_x8_isSo_77 d_x8_isSo_78
      rw [if_pos hg, w32i (x := (h : Int)) (by omega) (by omega), Int.toNat_natCast, e8, w32i (x := (j : Int)) (by omega) (by omega), w32i (x := (n : Int)) (by omega) (by omega), if_pos (by omega), w32_1, if_neg (show ¬ (1 : Int) = 0 by decide), e2, bI_some, w32i (x := v1) (by omega) (by omega), w32i (x := 40 * (h : Int) + (j : Int)) (by omega) (by omega), if_pos (show 0 ≤ 40 * (h : Int) + (j : Int) ∧ 40 * (h : Int) + (j : Int) < ((160 : Nat) : Int) by omega), show (40 * (h : Int) + (j : Int)).toNat = h * 40 + j by omega]
      rfl
    rw [EC, ER, stop]
    by_cases h1 : v1 = 1
    · rw [if_pos h1, if_pos h1, V1 h1, ei]
      by_cases h3 : w64 (r1 77 38) = w64 (r1 129 (h * 40 + j))
      · rw [if_pos h3, if_pos h3]
        exact ih m c1 r1 (j + 1) (by omega) (by omega) H1 M01 F01
      · rw [if_neg h3, if_neg h3]
        exact ⟨c1, r1, 0, rfl, rfl, H1, M01, F01, Or.inl rfl⟩
    · rw [if_neg h1, if_neg h1]
      exact ⟨c1, r1, 0, rfl, rfl, H1, M01, F01, Or.inl rfl⟩
/-- where a thought may begin: texts T, limit, sheet h of both -/
def TQ (T : St) (h n : Nat) (lim : Int) (c r : St) : Prop := (ct c T ∧ rt r T) ∧ (c 0 12 = lim ∧ r 77 9 = lim) ∧ (c 53 h = n ∧ r 128 h = n ∧ ∀ i : Nat, i < n → c 54 (h * 40 + i) = r 129 (h * 40 + i))
/-- the thought itself: class from c (thought ready), model from r1 (laid aside, ready), r is what was laid aside -/
theorem L_so {N : Nat} {T : St} (hN : 20000 ≤ N) (W : WT T) {s h n : Nat} (hs : s < 8) (hne : T 18 s ≠ 0) (hh : h < 4) (hn : n ≤ 40) {lim : Int} (hl : 0 ≤ lim ∧ lim ≤ 99) {c r r1 : St} (q : TQ T h n lim c r1) (S : TS 38 T c r1) (M : MT 38 T c) (I : ID 38 c)
    (a1 : ∀ q, q < 192 → r1 103 q = r 86 q ∧ r1 104 q = r 87 q ∧ r1 105 q = r 89 q ∧ r1 106 q = r 90 q) (a2 : ∀ q, q < 12288 → r1 107 q = r 91 q ∧ r1 108 q = r 92 q ∧ r1 109 q = r 93 q) :
    ∃ c' r' v, d_x7_isToldBy N c (h : Int) (s : Int) = some (c', v) ∧ d_x8_isSo_12 N r1 (h : Int) (s : Int) = some (r', v) ∧ (v = 0 ∨ v = 1) ∧ UT 38 c' ∧ RS r r' ∧ (∀ a k, ¬ (a = 50 ∨ (38 ≤ a ∧ a ≤ 49)) → c' a k = c a k) ∧ (∀ a k, ¬ (a = 77 ∨ (86 ≤ a ∧ a ≤ 93)) → r' a k = r1 a k) ∧ (∀ k, k ≠ 36 → k ≠ 37 → k ≠ 38 → r' 77 k = r1 77 k) := by
  obtain ⟨⟨q1, q2⟩, ⟨q3, q4⟩, q5, q6, q7⟩ := q
  have TB := T_begin (c := c) (r := r) W q1 q2 S M (lim := lim) (lim' := lim) hl rfl
  obtain ⟨c2, r2, v2, e1, e2, H2, M2, F2, V2⟩ := L_soL (N := N) (by omega) hs hne hh hn (up (up (up c 50 1 ((38 : Nat) : Int)) 50 2 lim) 50 3 0) (up (up r1 77 36 0) 77 37 lim) (by rw [up_ne (by omega), up_ne (by omega), up_ne (by omega)]; exact q5) (by rw [up_ne (by omega), up_ne (by omega)]; exact q6) (fun i hi => by rw [up_ne (by omega), up_ne (by omega), up_ne (by omega), up_ne (by omega), up_ne (by omega)]; exact q7 i hi) n N _ _ 0 (by omega) (by omega) TB Mo.refl Fm.refl
  obtain ⟨r3, w3, e3, b1, b2, er3⟩ := e_back8 hN r2
  refine ⟨c2, r3, v2, ?_, ?_, V2, UT.of H2.T H2.S, ⟨fun q hq => ?_, fun q hq => ?_⟩, fun a k z => ?_, fun a k z => ?_, fun k z y w => ?_⟩
  · unfold d_x7_isToldBy
    rw [q3, e_begin, bV_some]
    exact e1
  · unfold d_x8_isSo_12
    rw [q4]
    show d_x8_isSo_26L N N (up (up r1 77 36 0) 77 37 lim) (h : Int) (s : Int) 1 ((0 : Nat) : Int) = _
    rw [e2]
    unfold d_x8_isSo_86
    rw [e3, bV_some, if_pos V2]
  · have x := b1 q hq
    have y := a1 q hq
    have z : ∀ a, 103 ≤ a → a ≤ 109 → r2 a q = r1 a q := fun a _ _ => by rw [F2.1 a q (by omega), up_ne (by omega), up_ne (by omega)]
    rw [z 103 (by omega) (by omega), z 104 (by omega) (by omega), z 105 (by omega) (by omega), z 106 (by omega) (by omega), y.1, y.2.1, y.2.2.1, y.2.2.2] at x
    refine ⟨x.1, x.2.1, x.2.2.1, x.2.2.2, ?_⟩
    rw [er3 _ _ (by omega)]
    have w := H2.P hq
    unfold TP at w
    rw [w.2.2.2.2.1, (M2.2.2.2.1 q hq).2.1, up_ne (by omega), up_ne (by omega), up_ne (by omega)]
    exact (I q hq).1
  · have x := b2 q hq
    have y := a2 q hq
    have z : ∀ a, 103 ≤ a → a ≤ 109 → r2 a q = r1 a q := fun a _ _ => by rw [F2.1 a q (by omega), up_ne (by omega), up_ne (by omega)]
    rw [z 107 (by omega) (by omega), z 108 (by omega) (by omega), z 109 (by omega) (by omega), y.1, y.2.1, y.2.2] at x
    exact x
  · rw [M2.1 a k (by omega), up_ne (by omega), up_ne (by omega), up_ne (by omega)]
  · rw [er3 a k (by omega), F2.1 a k (by omega), up_ne (by omega), up_ne (by omega)]
  · rw [er3 _ _ (by omega), F2.2 k z w, up_nj (by omega), up_nj (by omega)]
/-- the class thinks with what is told, the model too -/
theorem L_so0 {N : Nat} {T : St} (hN : 20000 ≤ N) (W : WT T) {s h n : Nat} (hs : s < 8) (hne : T 18 s ≠ 0) (hh : h < 4) (hn : n ≤ 40) {lim : Int} (hl : 0 ≤ lim ∧ lim ≤ 99) {c r : St} (q : TQ T h n lim c r) (S : TS 26 T c r) (M : MT 26 T c) (I : ID 26 c) (U : UT 38 c) :
    ∃ c1 c' r' v w, d_x6_takeAll N 38 26 c = some (c1, w) ∧ d_x7_isToldBy N c1 (h : Int) (s : Int) = some (c', v) ∧ d_x8_isSo N r (h : Int) (s : Int) 0 = some (r', v) ∧ (v = 0 ∨ v = 1) ∧ UT 38 c' ∧ RS r r' ∧ (∀ a k, ¬ (a = 50 ∨ (38 ≤ a ∧ a ≤ 49)) → c' a k = c a k) ∧ (∀ a k, ¬ (a = 77 ∨ (86 ≤ a ∧ a ≤ 93) ∨ (103 ≤ a ∧ a ≤ 109)) → r' a k = r a k) ∧ (∀ k, k ≠ 36 → k ≠ 37 → k ≠ 38 → r' 77 k = r 77 k) := by
  obtain ⟨c1, w, e1, C1, ec1⟩ := e_take (N := N) (t := 38) (t2 := 26) (by omega) (by omega) U (UT.of M S)
  obtain ⟨r1, w', e2, a1, a2, er1⟩ := e_aside hN r
  have hrs : RS r r := RS.refl S I
  have hts := C1.ts S M (r' := r1) (fun a k _ _ _ _ _ => er1 a k (by omega)) (fun p hp => by rw [er1 _ _ (by omega)]; exact (hrs.1 p hp).2.2.2.2) (fun p hp => (I p hp).1)
  have hid : ID 38 c1 := fun p hp => ⟨(C1.2.2.1 p hp).2.2.2.1, fun i hi => by rw [(C1.2.2.1 p hp).2.2.2.2.2.2.2.1 i hi]; exact (I p hp).2 i hi⟩
  obtain ⟨⟨q1, q2⟩, ⟨q3, q4⟩, q5, q6, q7⟩ := q
  obtain ⟨c2, r2, v2, f1, f2, V2, U2, R2, ec2, er2, er7⟩ := L_so hN W hs hne hh hn hl (c := c1) (r := r) (r1 := r1) ⟨⟨fun a k x y => (ec1 a k (by omega)).trans (q1 a k x y), fun a k x y => (er1 a k (by omega)).trans (q2 a k x y)⟩, ⟨(ec1 _ _ (by omega)).trans q3, (er1 _ _ (by omega)).trans q4⟩, (ec1 _ _ (by omega)).trans q5, (er1 _ _ (by omega)).trans q6, fun i hi => by rw [ec1 _ _ (by omega), er1 _ _ (by omega)]; exact q7 i hi⟩ hts.1 hts.2 hid a1 a2
  refine ⟨c1, c2, r2, v2, w, e1, f1, ?_, V2, U2, R2, fun a k z => (ec2 a k z).trans (ec1 a k (by omega)), fun a k z => (er2 a k (by omega)).trans (er1 a k (by omega)), fun k z y x => (er7 k z y x).trans (er1 _ _ (by omega))⟩
  unfold d_x8_isSo
  rw [e2, bV_some, w32_0, if_pos rfl]
  exact f2
/-- both think anew -/
theorem L_so1 {N : Nat} {T : St} (hN : 20000 ≤ N) (W : WT T) {s h n : Nat} (hs : s < 8) (hne : T 18 s ≠ 0) (hh : h < 4) (hn : n ≤ 40) {lim : Int} (hl : 0 ≤ lim ∧ lim ≤ 99) {c r : St} (q : TQ T h n lim c r) (U : UT 38 c) :
    ∃ c1 c' r' v w, d_x6_untell N 38 c = some (c1, w) ∧ d_x7_isToldBy N c1 (h : Int) (s : Int) = some (c', v) ∧ d_x8_isSo N r (h : Int) (s : Int) 1 = some (r', v) ∧ (v = 0 ∨ v = 1) ∧ UT 38 c' ∧ RS r r' ∧ (∀ a k, ¬ (a = 50 ∨ (38 ≤ a ∧ a ≤ 49)) → c' a k = c a k) ∧ (∀ a k, ¬ (a = 77 ∨ (86 ≤ a ∧ a ≤ 93) ∨ (103 ≤ a ∧ a ≤ 109)) → r' a k = r a k) ∧ (∀ k, k ≠ 36 → k ≠ 37 → k ≠ 38 → r' 77 k = r 77 k) := by
  obtain ⟨c1, w, e1, Z1, ec1, ec8, ec9⟩ := e_untell (N := N) (t := 38) (by omega) U
  obtain ⟨r0, w', e2, a1, a2, er0⟩ := e_aside hN r
  obtain ⟨r1, w'', e3, Z2, er1⟩ := e_untells (N := N) (by omega) r0
  have hkb : KB 38 c1 := fun k hk => by rw [ec9]; exact U.2.2.2.1 k hk
  have hts := Z1.ts (T := T) Z2 hkb
  have hid : ID 38 c1 := fun p hp => ⟨(Z1.2 p hp).2.2.2.1, fun i hi => by rw [(Z1.2 p hp).2.2.2.2.2.2.2 i hi]; decide⟩
  have er : ∀ a k, ¬ ((86 ≤ a ∧ a ≤ 91) ∨ (103 ≤ a ∧ a ≤ 109)) → r1 a k = r a k := fun a k z => (er1 a k (by omega)).trans (er0 a k (by omega))
  obtain ⟨⟨q1, q2⟩, ⟨q3, q4⟩, q5, q6, q7⟩ := q
  obtain ⟨c2, r2, v2, f1, f2, V2, U2, R2, ec2, er2, er7⟩ := L_so hN W hs hne hh hn hl (c := c1) (r := r) (r1 := r1) ⟨⟨fun a k x y => (ec1 a k (by omega)).trans (q1 a k x y), fun a k x y => (er a k (by omega)).trans (q2 a k x y)⟩, ⟨(ec1 _ _ (by omega)).trans q3, (er _ _ (by omega)).trans q4⟩, (ec1 _ _ (by omega)).trans q5, (er _ _ (by omega)).trans q6, fun i hi => by rw [ec1 _ _ (by omega), er _ _ (by omega)]; exact q7 i hi⟩ hts.1 hts.2 hid (fun q hq => by rw [er1 _ _ (by omega), er1 _ _ (by omega), er1 _ _ (by omega), er1 _ _ (by omega)]; exact a1 q hq) (fun q hq => by rw [er1 _ _ (by omega), er1 _ _ (by omega), er1 _ _ (by omega)]; exact a2 q hq)
  refine ⟨c1, c2, r2, v2, w, e1, f1, ?_, V2, U2, R2, fun a k z => (ec2 a k z).trans (ec1 a k (by omega)), fun a k z => (er2 a k (by omega)).trans (er a k (by omega)), fun k z y x => (er7 k z y x).trans (er _ _ (by omega))⟩
  unfold d_x8_isSo
  rw [e2, bV_some, w32_1, if_neg (by decide), e3, bV_some]
  exact f2
end
section
def nb (k : Int) : Prop := k = 1 ∨ k = 3 ∨ k = 4 ∨ k = 5 ∨ k = 8 ∨ k = 9 ∨ k = 12 ∨ k = 13
theorem k14 {k : Int} (h : 0 ≤ k ∧ k ≤ 13) : k = 0 ∨ k = 1 ∨ k = 2 ∨ k = 3 ∨ k = 4 ∨ k = 5 ∨ k = 6 ∨ k = 7 ∨ k = 8 ∨ k = 9 ∨ k = 10 ∨ k = 11 ∨ k = 12 ∨ k = 13 := by omega
theorem e_hn {N : Nat} {s : St} {k : Int} (h : 0 ≤ k ∧ k ≤ 13) : (nb k → d_x0_hasNumber N s k = some (s, 1)) ∧ (¬ nb k → d_x0_hasNumber N s k = some (s, 0)) := by
  unfold nb
  rcases k14 h with e | e | e | e | e | e | e | e | e | e | e | e | e | e <;> subst e <;> refine ⟨fun z => ?_, fun z => ?_⟩ <;> first | rfl | (exfalso; omega)
theorem e_in8 {N : Nat} {s : St} {k : Int} (h : 0 ≤ k ∧ k ≤ 13) : (nb k → d_x8_isNumbered N s k = some (s, 1)) ∧ (¬ nb k → d_x8_isNumbered N s k = some (s, 0)) := by
  unfold nb
  rcases k14 h with e | e | e | e | e | e | e | e | e | e | e | e | e | e <;> subst e <;> refine ⟨fun z => ?_, fun z => ?_⟩ <;> first | rfl | (exfalso; omega)
/-- number of rows -/
def nro (k : Int) : Int := if k = 0 ∨ k = 1 ∨ k = 2 then 0 else if k = 6 ∨ k = 7 then 2 else 1
theorem e_rows {N : Nat} {s : St} {k : Int} (h : 0 ≤ k ∧ k ≤ 13) : d_x0_rows N s k = some (s, nro k) := by
  rcases k14 h with e | e | e | e | e | e | e | e | e | e | e | e | e | e <;> subst e <;> rfl
theorem e_allow {N : Nat} {s : St} {k v : Int} (h : 0 ≤ k ∧ k ≤ 13) (hv : r32 v) : d_x0_allows N s k v = some (s, if (k = 13 → 1 ≤ v ∧ v ≤ 9) ∧ (k = 8 ∨ k = 9 → 0 ≤ v) then 1 else 0) := by
  unfold d_x0_allows d_x0_allows_39
  rw [w32i (x := k) (by omega) (by omega), w32r hv]
  by_cases h13 : k = 13
  · rw [if_pos h13]
    by_cases h1 : v < 1
    · rw [if_pos h1, if_neg (by omega)]
    · rw [if_neg h1]
      by_cases h9 : 9 < v
      · rw [if_pos h9, if_neg (by omega)]
      · rw [if_neg h9, if_pos (by omega)]
  · rw [if_neg h13]
    by_cases h1 : v < 0
    · rw [if_pos h1]
      by_cases h8 : k = 8
      · rw [if_pos h8, if_neg (by omega)]
      · rw [if_neg h8]
        by_cases h9 : k = 9
        · rw [if_pos h9, if_neg (by omega)]
        · rw [if_neg h9, if_pos (by omega)]
    · rw [if_neg h1, if_pos (by omega)]
theorem e_hasP {N : Nat} {c : St} {s : Nat} {k : Int} (hs : s < 8) (hk : r32 k) (g : 0 ≤ c 18 s ∧ c 18 s ≤ 24) : d_x7_hasPart N c (s : Int) k = some (c, if 0 ≤ k ∧ k < c 18 s then 1 else 0) := by
  unfold d_x7_hasPart
  rw [S7t (by unfold r32; omega) (by omega), bI_some, w32_1, if_neg (by decide), w32r hk, w32i (x := (s : Int)) (by omega) (by omega), Int.toNat_natCast, w32i (x := c 18 s) (by omega) (by omega)]
  by_cases h1 : k < 0
  · rw [if_pos h1, if_neg (by omega)]
  · rw [if_neg h1, if_pos (by omega)]
    by_cases h2 : k < c 18 s
    · rw [if_pos h2, if_pos (by omega)]
    · rw [if_neg h2, if_neg (by omega)]
theorem e_hasPf {N : Nat} {c : St} {a k : Int} (ha : r32 a) (hs : ¬ (0 ≤ a ∧ a < 8)) : d_x7_hasPart N c a k = some (c, 0) := by
  unfold d_x7_hasPart
  rw [S7f ha hs, bI_some, w32_0, if_pos rfl]
theorem e_isP {N : Nat} {r : St} {s : Nat} {k : Int} (hs : s < 8) (hk : r32 k) (g : 0 ≤ r 78 s ∧ r 78 s ≤ 24) : d_x8_isPart N r (s : Int) k = some (r, if 0 ≤ k ∧ k < r 78 s then 1 else 0) := by
  unfold d_x8_isPart
  rw [w32i (x := (s : Int)) (by omega) (by omega), Int.toNat_natCast, if_pos (by omega), w32i (x := r 78 s - 1) (by omega) (by omega), w32r hk, e_in32 N r hk (by unfold r32; omega) (by unfold r32; omega), bI_some, bz]
  by_cases h : 0 ≤ k ∧ k < r 78 s
  · rw [if_pos h, if_pos (by omega)]
  · rw [if_neg h, if_neg (by omega)]
theorem i32_self (x : Int32) : r32 x.toInt := by
  have h : x.toInt = w32 x.toInt := by rw [← i32w, Int32.ofInt_toInt]
  rw [h]
  exact w32_rng _
theorem or32_r (x y : Int) : r32 (or32 x y) := i32_self _
theorem or32_0 {x : Int} (h : r32 x) : or32 x 0 = x := by
  unfold or32
  rw [show Int32.ofInt 0 = 0 from rfl, Int32.or_zero, i32w, w32r h]
theorem shl_0 {j : Nat} (h : j < 8) : shl32 0 (j : Int) = 0 := by
  have : j = 0 ∨ j = 1 ∨ j = 2 ∨ j = 3 ∨ j = 4 ∨ j = 5 ∨ j = 6 ∨ j = 7 := by omega
  rcases this with e | e | e | e | e | e | e | e <;> subst e <;> rfl
/-- the facts of one part -/
theorem RG.wf {c r : St} (H : RG c r) {p : Nat} (hp : p < 192) (hv : ((p % 24 : Nat) : Int) < c 18 (p / 24)) : WFp (tx c r) p := H.2.1.1.1.2 p ⟨hp, by rw [← tx_ct c r 18 _ (by omega) (by omega)]; exact hv⟩
theorem RG.kd {c r : St} (H : RG c r) {p : Nat} (hp : p < 192) (hv : ((p % 24 : Nat) : Int) < c 18 (p / 24)) : r 79 p = c 19 p ∧ r 80 p = c 20 p ∧ r 81 p = c 23 p ∧ r 84 p = c 24 p ∧ 0 ≤ c 19 p ∧ c 19 p ≤ 13 ∧ 1 ≤ c 23 p ∧ c 23 p ≤ 24 := by
  have w := (H.wf hp hv).1
  rw [← tx_ct c r 19 p (by omega) (by omega), ← tx_ct c r 20 p (by omega) (by omega), ← tx_ct c r 23 p (by omega) (by omega), ← tx_ct c r 24 p (by omega) (by omega), ← tx_rt c r 79 p (by omega) (by omega), ← tx_rt c r 80 p (by omega) (by omega), ← tx_rt c r 81 p (by omega) (by omega), ← tx_rt c r 84 p (by omega) (by omega)] at w
  exact w
theorem RG.nm {c r : St} (H : RG c r) {p : Nat} (hp : p < 192) (hv : ((p % 24 : Nat) : Int) < c 18 (p / 24)) (h : c 19 p ≠ 2) : r 82 p = c 21 p ∧ -9999 ≤ c 21 p ∧ c 21 p ≤ 9999 := by
  have w := (H.wf hp hv).2.1
  rw [← tx_ct c r 19 p (by omega) (by omega), ← tx_ct c r 21 p (by omega) (by omega), ← tx_rt c r 82 p (by omega) (by omega)] at w
  exact w h
theorem sk {s k : Nat} (hk : k < 24) : (24 * s + k) % 24 = k ∧ (24 * s + k) / 24 = s := by omega
end
section
/-- tells(.., 0): which streams -/
theorem L_ts {N : Nat} (hN : 20000 ≤ N) {h n : Nat} (hh : h < 4) (hn : n ≤ 16) (c0 r0 : St) (x2 x5 : Int) : ∀ (k m : Nat) (c r : St) (j : Nat) (x : Int), j + k = 8 → k < m → r32 x → RG c r → c 52 h ≠ -1 → c 53 h = n → (∀ a k, 77 ≤ a → c a k = c0 a k) → (∀ a k, a < 77 → r a k = r0 a k) →
    Two (d_x7_tellingStreams_4L N m c (h : Int) x (j : Int)) (d_x8_tells_130L N m r (h : Int) x2 0 x5 x (j : Int)) (QG c0 r0) := by
  intro k
  induction k with
  | zero =>
    intro m c r j x hj hm hx H h5 h6 e f
    obtain ⟨m, rfl⟩ : ∃ m', m = m' + 1 := ⟨m - 1, by omega⟩
    show Two (d_x7_tellingStreams_4 N (d_x7_tellingStreams_4L N m) c h x j) (d_x8_tells_130 N (d_x8_tells_130L N m) r h x2 0 x5 x j) _
    unfold d_x7_tellingStreams_4 d_x8_tells_130 d_x8_tells_181
    (repeat (first | with_reducible refine Two.bdL ?_ | with_reducible refine Two.bdR ?_ | (with_reducible refine Two.iL ?_ ?_; · ((try simp (disch := omega) only [w32i, Int.toNat_natCast]) <;> omega)) | (with_reducible refine Two.eL ?_ ?_; · ((try simp (disch := omega) only [w32i, Int.toNat_natCast]) <;> omega)) | (with_reducible refine Two.iR ?_ ?_; · ((try simp (disch := omega) only [w32i, Int.toNat_natCast]) <;> omega)) | (with_reducible refine Two.eR ?_ ?_; · ((try simp (disch := omega) only [w32i, Int.toNat_natCast]) <;> omega))))
    exact Two.ret rfl ⟨H, e, f⟩
  | succ k ih =>
    intro m c r j x hj hm hx H h5 h6 e f
    obtain ⟨m, rfl⟩ : ∃ m', m = m' + 1 := ⟨m - 1, by omega⟩
    show Two (d_x7_tellingStreams_4 N (d_x7_tellingStreams_4L N m) c h x j) (d_x8_tells_130 N (d_x8_tells_130L N m) r h x2 0 x5 x j) _
    unfold d_x7_tellingStreams_4 d_x8_tells_130
    have hp := H.p18 j (by omega)
    have hl := H.2.2.2.2.2.1
    unfold RLi at hl
    refine Two.iL (by ((try simp (disch := omega) only [w32i, Int.toNat_natCast]) <;> omega)) ?_
    refine Two.iR (by ((try simp (disch := omega) only [w32i, Int.toNat_natCast]) <;> omega)) (Two.iR (by ((try simp (disch := omega) only [w32i, Int.toNat_natCast]) <;> omega)) (Two.iR (by ((try simp (disch := omega) only [w32i, Int.toNat_natCast]) <;> omega)) ?_))
    rw [w32i (x := (j : Int)) (by omega) (by omega), Int.toNat_natCast, hp.2, w32i (x := c 18 j) (by omega) (by omega)]
    refine Two.cL (Em (by omega) hp.1) ?_
    by_cases he : c 18 j = 0
    · rw [if_pos he]
      refine Two.eL (by decide) (Two.eR (by omega) ?_)
      unfold d_x7_tellingStreams_47 d_x8_tells_168 d_x8_tells_169
      refine Two.bdL (Two.bdR (Two.bdR ?_))
      rw [shl_0 (by omega), or32_0 hx]
      exact ih m c r (j + 1) x (by omega) (by omega) hx H h5 h6 e f
    · rw [if_neg he]
      refine Two.iL (by decide) (Two.iR (by omega) ?_)
      have hsh := H.2.2.2.2.1 h hh
      have hT := H.2.1
      rcases hsh with z | ⟨z1, z2, z3, z4, z5, z6, z7⟩
      · exact absurd z.1 h5
      · obtain ⟨c1, c2, r2, v2, w2, e1, e2, e3, V2, U2, R2, ec, er, er7⟩ := L_so0 hN hT.1.1 (s := j) (h := h) (n := n) (by omega) (by rw [← tx_ct c r 18 j (by omega) (by omega)]; exact he) hh (by omega) (lim := c 0 12) hl.2 (c := c) (r := r) ⟨⟨tx_ct c r, tx_rt c r⟩, ⟨rfl, hl.1⟩, h6, by rw [z4]; exact h6, fun i hi => z7 i (by omega)⟩ hT.2.1 hT.2.2.1 hT.2.2.2 H.2.2.1.1
        have Q := S_think H ec er er7 R2 U2 0
        refine Two.vL e1 ?_
        refine Two.cL e2 ?_
        refine Two.cR e3 ?_
        have n5 : c2 52 h ≠ -1 := by rw [ec _ _ (by omega)]; exact h5
        have n6 : c2 53 h = n := by rw [ec _ _ (by omega)]; exact h6
        rcases V2 with rfl | rfl
        · refine Two.iL (by decide) (Two.iR (by decide) ?_)
          unfold d_x7_tellingStreams_47 d_x8_tells_168 d_x8_tells_169
          refine Two.bdL (Two.bdR (Two.bdR ?_))
          rw [shl_0 (by omega), or32_0 hx]
          exact ih m c2 r2 (j + 1) x (by omega) (by omega) hx Q.1 n5 n6 (fun a k y => (Q.2.1 a k y).trans (e a k y)) (fun a k y => (Q.2.2 a k y).trans (f a k y))
        · refine Two.eL (by decide) (Two.eR (by decide) ?_)
          unfold d_x7_tellingStreams_47 d_x8_tells_169
          refine Two.bdL (Two.bdL (Two.bdR (Two.bdR ?_)))
          exact ih m c2 r2 (j + 1) _ (by omega) (by omega) (or32_r _ _) Q.1 n5 n6 (fun a k y => (Q.2.1 a k y).trans (e a k y)) (fun a k y => (Q.2.2 a k y).trans (f a k y))
/-- texts with another number at p -/
def tv (T : St) (p : Nat) (v : Int) : St := fun a k => if (a = 21 ∨ a = 82) ∧ k = p then v else T a k
theorem tv_ne {T : St} {p a k : Nat} {v : Int} (h : ¬ ((a = 21 ∨ a = 82) ∧ k = p)) : tv T p v a k = T a k := if_neg h
theorem tv_p {T : St} {p a : Nat} {v : Int} (h : a = 21 ∨ a = 82) : tv T p v a p = v := if_pos ⟨h, rfl⟩
theorem WT.num {T : St} (W : WT T) {p : Nat} {v : Int} (hp : VP T p) (hk : nb (T 19 p)) (hv : -9999 ≤ v ∧ v ≤ 9999) (h89 : T 19 p = 8 ∨ T 19 p = 9 → 0 ≤ v) (h13 : T 19 p = 13 → 1 ≤ v ∧ v ≤ 9) : WT (tv T p v) := by
  refine ⟨fun s hs => ?_, fun q hq => ?_⟩
  · rw [tv_ne (by omega), tv_ne (by omega)]
    exact W.1 s hs
  · have hq' : VP T q := by
      unfold VP at *
      rw [tv_ne (by omega)] at hq
      exact hq
    have w := W.2 q hq'
    have hVP : ∀ x, VP T x → VP (tv T p v) x := by
      intro x hx
      unfold VP at *
      rw [tv_ne (by omega)]
      exact hx
    have e19 : tv T p v 19 q = T 19 q := tv_ne (by omega)
    have e20 : tv T p v 20 q = T 20 q := tv_ne (by omega)
    have e22 : tv T p v 22 q = T 22 q := tv_ne (by omega)
    have e23 : tv T p v 23 q = T 23 q := tv_ne (by omega)
    have e24 : tv T p v 24 q = T 24 q := tv_ne (by omega)
    have e79 : tv T p v 79 q = T 79 q := tv_ne (by omega)
    have e80 : tv T p v 80 q = T 80 q := tv_ne (by omega)
    have e81 : tv T p v 81 q = T 81 q := tv_ne (by omega)
    have e83 : tv T p v 83 q = T 83 q := tv_ne (by omega)
    have e84 : tv T p v 84 q = T 84 q := tv_ne (by omega)
    have e23' : tv T p v 23 (q + 1) = T 23 (q + 1) := tv_ne (by omega)
    obtain ⟨w1, w2, w3, w4, w5, w6, w7, w8, w9, w10, w11, w12, w13⟩ := w
    unfold WFp
    rw [e19, e20, e22, e23, e24, e79, e80, e81, e83, e84, e23']
    refine ⟨w1, ?_, ?_, w4, fun z => ⟨(w5 z).1, (w5 z).2.1, fun i hi => ?_⟩, w6, ?_, ?_, w9, w10, w11, fun z => ⟨hVP _ (w12 z).1, (w12 z).2⟩, fun z => ⟨hVP _ (w13 z).1, (w13 z).2⟩⟩
    · by_cases e : q = p
      · subst e
        rw [tv_p (Or.inl rfl), tv_p (Or.inr rfl)]
        omega
      · rw [tv_ne (by omega), tv_ne (by omega)]
        exact w2
    · by_cases e : q = p
      · subst e
        intro z
        unfold nb at hk
        omega
      · rw [tv_ne (by omega)]
        exact w3
    · rw [tv_ne (by omega), tv_ne (by omega)]
      exact (w5 z).2.2 i hi
    · by_cases e : q = p
      · subst e
        rw [tv_p (Or.inl rfl)]
        exact h89
      · rw [tv_ne (by omega)]
        exact w7
    · by_cases e : q = p
      · subst e
        rw [tv_p (Or.inl rfl)]
        exact h13
      · rw [tv_ne (by omega)]
        exact w8
def CV (c0 : St) (p : Nat) (c : St) : Prop := (∀ a k, ¬ (a = 50 ∨ (38 ≤ a ∧ a ≤ 49) ∨ (a = 21 ∧ k = p)) → c a k = c0 a k) ∧ UT 38 c
def RV (r0 : St) (p : Nat) (r : St) : Prop := (∀ a k, ¬ (a = 77 ∨ (86 ≤ a ∧ a ≤ 93) ∨ (103 ≤ a ∧ a ≤ 109) ∨ (a = 82 ∧ k = p)) → r a k = r0 a k) ∧ (∀ k, k ≠ 36 → k ≠ 37 → k ≠ 38 → r 77 k = r0 77 k) ∧ RS r0 r
def alw (k v : Int) : Prop := (k = 13 → 1 ≤ v ∧ v ≤ 9) ∧ (k = 8 ∨ k = 9 → 0 ≤ v)
theorem RS.trans {r s u : St} (h : RS r s) (g : RS s u) : RS r u := ⟨fun q hq => by
    have a := h.1 q hq
    have b := g.1 q hq
    exact ⟨b.1.trans a.1, b.2.1.trans a.2.1, b.2.2.1.trans a.2.2.1, b.2.2.2.1.trans a.2.2.2.1, b.2.2.2.2⟩, fun q hq => by
    have a := h.2 q hq
    have b := g.2 q hq
    exact ⟨b.1.trans a.1, b.2.1.trans a.2.1, b.2.2.trans a.2.2⟩⟩
/-- what is answered for a number doesn't hang on the way there -/
theorem L_B {N : Nat} (hN : 20000 ≤ N) {c0 r0 : St} (H : RG c0 r0) {s h n p : Nat} (hs : s < 8) (he : c0 18 s ≠ 0) (hh : h < 4) (hn : n ≤ 16) (h5 : c0 52 h ≠ -1) (h6 : c0 53 h = n) (hp : p < 192) (hv : ((p % 24 : Nat) : Int) < c0 18 (p / 24)) (hk : nb (c0 19 p)) :
    ∃ B : Int → Int, ∀ v : Int, 0 ≤ v ∧ v ≤ 20 → alw (c0 19 p) v → (B v = 0 ∨ B v = 1)
      ∧ (∀ c, CV c0 p c → c 21 p = v → ∃ c1 c' w, d_x6_untell N 38 c = some (c1, w) ∧ d_x7_isToldBy N c1 (h : Int) (s : Int) = some (c', B v) ∧ CV c0 p c')
      ∧ (∀ r, RV r0 p r → r 82 p = v → ∃ r', d_x8_isSo N r (h : Int) (s : Int) 1 = some (r', B v) ∧ RV r0 p r') := by
  have hT := H.2.1
  have hl := H.2.2.2.2.2.1
  unfold RLi at hl
  have hsh := H.2.2.2.2.1 h hh
  rcases hsh with z | ⟨z1, z2, z3, z4, z5, z6, z7⟩
  · exact absurd z.1 h5
  have hvp : VP (tx c0 r0) p := ⟨hp, by rw [← tx_ct c0 r0 18 _ (by omega) (by omega)]; exact hv⟩
  have k19 : tx c0 r0 19 p = c0 19 p := (tx_ct c0 r0 19 p (by omega) (by omega)).symm
  have core : ∀ v : Int, 0 ≤ v ∧ v ≤ 20 → alw (c0 19 p) v → ∀ c r, CV c0 p c → c 21 p = v → RV r0 p r → r 82 p = v → ∃ c1 c' r' x w, d_x6_untell N 38 c = some (c1, w) ∧ d_x7_isToldBy N c1 (h : Int) (s : Int) = some (c', x) ∧ d_x8_isSo N r (h : Int) (s : Int) 1 = some (r', x) ∧ (x = 0 ∨ x = 1) ∧ CV c0 p c' ∧ RV r0 p r' := by
    intro v hv1 ha c r hc hcv hr hrv
    have W : WT (tv (tx c0 r0) p v) := hT.1.1.num hvp (by rw [k19]; exact hk) (by omega) (fun _ => hv1.1) (by rw [k19]; exact ha.1)
    have q1 : ct c (tv (tx c0 r0) p v) := by
      intro a k x y
      by_cases e : a = 21 ∧ k = p
      · obtain ⟨rfl, rfl⟩ := e
        rw [tv_p (Or.inl rfl)]; exact hcv
      · rw [tv_ne (by omega), hc.1 a k (by omega)]
        exact tx_ct c0 r0 a k x y
    have q2 : rt r (tv (tx c0 r0) p v) := by
      intro a k x y
      by_cases e : a = 82 ∧ k = p
      · obtain ⟨rfl, rfl⟩ := e
        rw [tv_p (Or.inr rfl)]; exact hrv
      · rw [tv_ne (by omega), hr.1 a k (by omega)]
        exact tx_rt c0 r0 a k x y
    obtain ⟨c1, c2, r2, v2, w2, e1, e2, e3, V2, U2, R2, ec, er, er7⟩ := L_so1 hN W (s := s) (h := h) (n := n) hs (by rw [tv_ne (by omega), ← tx_ct c0 r0 18 s (by omega) (by omega)]; exact he) hh (by omega) (lim := c0 0 12) hl.2 (c := c) (r := r) ⟨⟨q1, q2⟩, ⟨hc.1 _ _ (by omega), by rw [hr.2.1 _ (by omega) (by omega) (by omega)]; exact hl.1⟩, by rw [hc.1 _ _ (by omega)]; exact h6, by rw [hr.1 _ _ (by omega), z4]; exact h6, fun i hi => by rw [hc.1 _ _ (by omega), hr.1 _ _ (by omega)]; exact z7 i (by omega)⟩ hc.2
    exact ⟨c1, c2, r2, v2, w2, e1, e2, e3, V2, ⟨fun a k z => (ec a k (by omega)).trans (hc.1 a k z), U2⟩, ⟨fun a k z => (er a k (by omega)).trans (hr.1 a k z), fun k z y x => (er7 k z y x).trans (hr.2.1 k z y x), hr.2.2.trans R2⟩⟩
  have cb : ∀ v : Int, CV c0 p (up c0 21 p v) ∧ up c0 21 p v 21 p = v := fun v => ⟨⟨fun a k z => by rw [up_app, if_neg (by omega)], H.2.2.1.1.cong (fun a k _ _ => up_ne (by omega))⟩, up_same⟩
  have rb : ∀ v : Int, RV r0 p (up r0 82 p v) ∧ up r0 82 p v 82 p = v := by
    intro v
    have z := RS.refl hT.2.1 hT.2.2.2
    exact ⟨⟨fun a k z => by rw [up_app, if_neg (by omega)], fun k _ _ _ => up_ne (by omega), ⟨fun q hq => by rw [up_ne (by omega), up_ne (by omega), up_ne (by omega), up_ne (by omega), up_ne (by omega)]; exact z.1 q hq, fun q hq => by rw [up_ne (by omega), up_ne (by omega), up_ne (by omega)]; exact z.2 q hq⟩⟩, up_same⟩
  refine ⟨fun v => ((d_x8_isSo N (up r0 82 p v) (h : Int) (s : Int) 1).map Prod.snd).getD 0, fun v hv1 ha => ?_⟩
  obtain ⟨c1, c2, r2, x, w, e1, e2, e3, V, C2, R2⟩ := core v hv1 ha _ _ (cb v).1 (cb v).2 (rb v).1 (rb v).2
  have hB : ((d_x8_isSo N (up r0 82 p v) (h : Int) (s : Int) 1).map Prod.snd).getD 0 = x := by rw [e3]; rfl
  simp only [hB]
  refine ⟨V, fun c hc hcv => ?_, fun r hr hrv => ?_⟩
  · obtain ⟨c3, c4, r4, x', w', f1, f2, f3, V', C4, R4⟩ := core v hv1 ha c _ hc hcv (rb v).1 (rb v).2
    rw [e3] at f3
    have := (Prod.mk.inj (Option.some.inj f3)).2
    rw [this]
    exact ⟨c3, c4, w', f1, f2, C4⟩
  · obtain ⟨c3, c4, r4, x', w', f1, f2, f3, V', C4, R4⟩ := core v hv1 ha _ r (cb v).1 (cb v).2 hr hrv
    rw [e1] at f1
    have h1 := (Prod.mk.inj (Option.some.inj f1)).1
    rw [← h1, e2] at f2
    have := (Prod.mk.inj (Option.some.inj f2)).2
    rw [this]
    exact ⟨r4, f3, R4⟩
def sg (B : Int → Int) : Nat → Int
  | 0 => 0
  | k + 1 => B (20 - k) + sg B k
def gg (B : Int → Int) : Nat → Int
  | 0 => -1
  | k + 1 => if B (20 - k) = 1 then 20 - k else gg B k
theorem sg_0 {B : Int → Int} : ∀ k : Nat, (∀ i : Nat, i < k → B (20 - i) = 0) → sg B k = 0 ∧ gg B k = -1 := by
  intro k
  induction k with
  | zero => intro _; exact ⟨rfl, rfl⟩
  | succ k ih =>
    intro h
    have a := ih (fun i hi => h i (by omega))
    have b := h k (by omega)
    show B (20 - k) + sg B k = 0 ∧ (if B (20 - k) = 1 then (20 : Int) - k else gg B k) = -1
    rw [b, a.1, if_neg (by decide)]
    exact ⟨rfl, a.2⟩
theorem sg_rng {B : Int → Int} : ∀ k : Nat, k ≤ 21 → (∀ v : Int, B v = 0 ∨ B v = 1) → (0 ≤ sg B k ∧ sg B k ≤ k) ∧ -1 ≤ gg B k ∧ gg B k ≤ 20 := by
  intro k
  induction k with
  | zero => intro _ _; exact ⟨⟨Int.le_refl _, Int.le_refl _⟩, show (-1 : Int) ≤ -1 by decide, show (-1 : Int) ≤ 20 by decide⟩
  | succ k ih =>
    intro hk h
    have a := ih (by omega) h
    have b := h (20 - k)
    show (0 ≤ B (20 - k) + sg B k ∧ B (20 - k) + sg B k ≤ ((k + 1 : Nat) : Int)) ∧ -1 ≤ (if B (20 - k) = 1 then (20 : Int) - k else gg B k) ∧ (if B (20 - k) = 1 then (20 : Int) - k else gg B k) ≤ 20
    split <;> omega
/-- the class's loop over numbers -/
theorem L_tnC {N : Nat} {c0 : St} {s h p : Nat} (hp : p < 192) (hkd : 0 ≤ c0 19 p ∧ c0 19 p ≤ 13) (B : Int → Int) (hB : ∀ v : Int, 0 ≤ v ∧ v ≤ 20 → alw (c0 19 p) v → (B v = 0 ∨ B v = 1) ∧ (∀ c, CV c0 p c → c 21 p = v → ∃ c1 c' w, d_x6_untell N 38 c = some (c1, w) ∧ d_x7_isToldBy N c1 (h : Int) (s : Int) = some (c', B v) ∧ CV c0 p c'))
    (B' : Int → Int) (hB1 : ∀ v, alw (c0 19 p) v → B' v = B v) (hB0 : ∀ v, ¬ alw (c0 19 p) v → B' v = 0) (x4 : Int) (hx4 : x4 = 0 ∨ x4 = 1) :
    ∀ (k m : Nat) (c : St) (many first : Int), k ≤ 21 → k < m → CV c0 p c → (first = -1 ∨ (0 ≤ first ∧ first ≤ 20)) →
      ∃ c', d_x7_tellingNumbers_29L N m c (h : Int) (s : Int) x4 (p : Int) (c0 21 p) many first (21 - k) = some (c', if x4 = 0 then many + sg B' k else if first = -1 then gg B' k else first) ∧ (∀ a k, ¬ (a = 50 ∨ (38 ≤ a ∧ a ≤ 49)) → c' a k = c0 a k) ∧ UT 38 c' := by
  intro k
  induction k with
  | zero =>
    intro m c many first hk hm hc hf
    obtain ⟨m, rfl⟩ : ∃ m', m = m' + 1 := ⟨m - 1, by omega⟩
    refine ⟨up c 21 p (c0 21 p), ?_, fun a k z => ?_, hc.2.cong (fun a k _ _ => up_ne (by omega))⟩
    · show d_x7_tellingNumbers_29 N (d_x7_tellingNumbers_29L N m) c h s x4 p (c0 21 p) many first (21 - ((0 : Nat) : Int)) = _
      unfold d_x7_tellingNumbers_29
      rw [if_pos (show 20 < w32 (21 - ((0 : Nat) : Int)) by decide), w32i (x := (p : Int)) (by omega) (by omega), if_pos (by omega), bd_eq, Int.toNat_natCast]
      rcases hx4 with e | e
      · subst e
        rw [w32_0, if_pos rfl, if_pos rfl]
        show some (_, many) = some (_, many + 0)
        rw [Int.add_zero]
      · subst e
        rw [w32_1, if_neg (by decide), if_neg (by decide)]
        by_cases e1 : first = -1
        · rw [if_pos e1, e1]; rfl
        · rw [if_neg e1]
    · by_cases e : a = 21 ∧ k = p
      · obtain ⟨rfl, rfl⟩ := e
        exact up_same
      · rw [up_app, if_neg e]
        exact hc.1 a k (by omega)
  | succ k ih =>
    intro m c many first hk hm hc hf
    obtain ⟨m, rfl⟩ : ∃ m', m = m' + 1 := ⟨m - 1, by omega⟩
    have k19 : c 19 p = c0 19 p := hc.1 _ _ (by omega)
    obtain ⟨v, hv⟩ : ∃ v : Int, v = 20 - k := ⟨_, rfl⟩
    have hv2 : (21 : Int) - ((k + 1 : Nat) : Int) = v := by omega
    have hv3 : v + 1 = 21 - (k : Int) := by omega
    have hsg : sg B' (k + 1) = B' v + sg B' k := by rw [hv]; rfl
    have hgg : gg B' (k + 1) = if B' v = 1 then v else gg B' k := by rw [hv]; rfl
    have unf : d_x7_tellingNumbers_29L N (m + 1) c (h : Int) (s : Int) x4 (p : Int) (c0 21 p) many first (21 - ((k + 1 : Nat) : Int)) = d_x7_tellingNumbers_29 N (d_x7_tellingNumbers_29L N m) c (h : Int) (s : Int) x4 (p : Int) (c0 21 p) many first v := by rw [hv2]; rfl
    rw [unf]
    unfold d_x7_tellingNumbers_29 d_x7_tellingNumbers_101
    rw [if_neg (by rw [w32i (x := v) (by omega) (by omega)]; omega), w32i (x := (p : Int)) (by omega) (by omega), if_pos (show 0 ≤ (p : Int) ∧ (p : Int) < ((192 : Nat) : Int) by omega), Int.toNat_natCast, k19, e_allow hkd (by unfold r32; omega), bI_some]
    by_cases ha : alw (c0 19 p) v
    · rw [if_pos (show (c0 19 p = 13 → 1 ≤ v ∧ v ≤ 9) ∧ (c0 19 p = 8 ∨ c0 19 p = 9 → 0 ≤ v) from ha), w32_1, if_neg (show ¬ (1 : Int) = 0 by decide), if_pos (show 0 ≤ (p : Int) ∧ (p : Int) < ((192 : Nat) : Int) by omega), bd_eq]
      have b := hB v (by omega) ha
      have hcv : CV c0 p (up c 21 p v) := ⟨fun a k z => by rw [up_app, if_neg (by omega)]; exact hc.1 a k z, hc.2.cong (fun a k _ _ => up_ne (by omega))⟩
      obtain ⟨c1, c2, w, e1, e2, C2⟩ := b.2 _ hcv up_same
      rw [e1, bV_some, e2, bI_some]
      have hb' := hB1 v ha
      rcases b.1 with b0 | b0
      · rw [b0, w32_0, if_pos rfl, bd_eq, hv3, hsg, hgg, hb', b0, if_neg (show ¬ (0 : Int) = 1 by decide), Int.zero_add]
        exact ih m c2 many first (by omega) (by omega) C2 hf
      · rw [b0, w32_1, if_neg (show ¬ (1 : Int) = 0 by decide), bd_eq, hsg, hgg, hb', b0, if_pos rfl]
        by_cases hf1 : first = -1
        · rw [if_pos (by rw [hf1]; rfl), bd_eq, hv3]
          obtain ⟨c', i1, i2, i3⟩ := ih m c2 (many + 1) v (by omega) (by omega) C2 (Or.inr ⟨by omega, by omega⟩)
          refine ⟨c', ?_, i2, i3⟩
          rw [i1, if_pos hf1, if_neg (show ¬ v = -1 by omega), show many + 1 + sg B' k = many + (1 + sg B' k) by omega]
        · rw [if_neg (by rw [w32i (x := first) (by omega) (by omega)]; exact hf1), bd_eq, hv3]
          obtain ⟨c', i1, i2, i3⟩ := ih m c2 (many + 1) first (by omega) (by omega) C2 hf
          refine ⟨c', ?_, i2, i3⟩
          rw [i1, if_neg hf1, if_neg hf1, show many + 1 + sg B' k = many + (1 + sg B' k) by omega]
    · rw [if_neg (show ¬ ((c0 19 p = 13 → 1 ≤ v ∧ v ≤ 9) ∧ (c0 19 p = 8 ∨ c0 19 p = 9 → 0 ≤ v)) from ha), w32_0, if_pos rfl, bd_eq, hv3, hsg, hgg, hB0 v ha, if_neg (show ¬ (0 : Int) = 1 by decide), Int.zero_add]
      exact ih m c many first (by omega) (by omega) hc hf
/-- the model's loop over numbers -/
theorem L_tnM {N : Nat} {r0 : St} {s h p : Nat} (hp : p < 192) {kd : Int} (hkd : r0 79 p = kd ∧ 0 ≤ kd ∧ kd ≤ 13) (B : Int → Int) (hB : ∀ v : Int, 0 ≤ v ∧ v ≤ 20 → alw kd v → (B v = 0 ∨ B v = 1) ∧ (∀ r, RV r0 p r → r 82 p = v → ∃ r', d_x8_isSo N r (h : Int) (s : Int) 1 = some (r', B v) ∧ RV r0 p r'))
    (B' : Int → Int) (hB1 : ∀ v, alw kd v → B' v = B v) {x3 : Int} (hx3 : 4 ≤ x3 ∧ x3 ≤ 2147483647) {lo : Int} (hlo : lo = if kd = 13 then 1 else 0) :
    ∀ (k m : Nat) (r : St) (v : Int), (k : Int) = v + 1 - lo → v ≤ 20 → (kd = 13 → v ≤ 9) → k < m → RV r0 p r →
      ∃ r', d_x8_tells_224L N m r (h : Int) (s : Int) x3 (p : Int) (r0 82 p) (sg B' (20 - v).toNat) (gg B' (20 - v).toNat) v = some (r', if x3 % 4 = 0 then sg B' (21 - lo).toNat else gg B' (21 - lo).toNat) ∧ (∀ a k, ¬ (a = 77 ∨ (86 ≤ a ∧ a ≤ 93) ∨ (103 ≤ a ∧ a ≤ 109)) → r' a k = r0 a k) ∧ (∀ k, k ≠ 36 → k ≠ 37 → k ≠ 38 → r' 77 k = r0 77 k) ∧ RS r0 r' := by
  have hlo2 : lo = 0 ∨ lo = 1 := by
    rw [hlo]
    split <;> omega
  have to243 : ∀ (m : Nat) (r : St) (x9 x10 v : Int), RV r0 p r → d_x8_tells_224L N (m + 1) r (h : Int) (s : Int) x3 (p : Int) (r0 82 p) x9 x10 v = d_x8_tells_243 N (d_x8_tells_224L N m) r (h : Int) (s : Int) x3 (p : Int) (r0 82 p) x9 x10 v lo v := by
    intro m r x9 x10 v hr
    show d_x8_tells_224 N (d_x8_tells_224L N m) r h s x3 p (r0 82 p) x9 x10 v = _
    unfold d_x8_tells_224
    rw [w32i (x := (p : Int)) (by omega) (by omega), if_pos (by omega), Int.toNat_natCast, hr.1 79 p (by omega), hkd.1, w32i (x := kd) (by omega) (by omega), hlo]
    split <;> rfl
  have tm : Int.tmod x3 4 = x3 % 4 := Int.tmod_eq_emod_of_nonneg (by omega)
  intro k
  induction k with
  | zero =>
    intro m r v hk hv hv9 hm hr
    obtain ⟨m, rfl⟩ : ∃ m', m = m' + 1 := ⟨m - 1, by omega⟩
    rw [to243 m r _ _ v hr]
    unfold d_x8_tells_243
    rw [w32i (x := v) (by omega) (by omega), w32i (x := lo) (by omega) (by omega), if_pos (by omega), w32i (x := (p : Int)) (by omega) (by omega), if_pos (by omega), bd_eq, Int.toNat_natCast, if_neg (show ¬ (4 : Nat) = 0 by decide), w32i (x := x3) (by omega) (by omega), tm, w32i (x := x3 % 4) (by omega) (by omega)]
    refine ⟨up r 82 p (r0 82 p), ?_, fun a k z => ?_, fun k z y x => ?_, ⟨fun q hq => ?_, fun q hq => ?_⟩⟩
    · rw [show (20 - v).toNat = (21 - lo).toNat by omega]
      split <;> rfl
    · by_cases e : a = 82 ∧ k = p
      · obtain ⟨rfl, rfl⟩ := e
        exact up_same
      · rw [up_app, if_neg e]
        exact hr.1 a k (by omega)
    · rw [up_ne (by omega)]
      exact hr.2.1 k z y x
    · rw [up_ne (by omega), up_ne (by omega), up_ne (by omega), up_ne (by omega), up_ne (by omega)]
      exact hr.2.2.1 q hq
    · rw [up_ne (by omega), up_ne (by omega), up_ne (by omega)]
      exact hr.2.2.2 q hq
  | succ k ih =>
    intro m r v hk hv hv9 hm hr
    obtain ⟨m, rfl⟩ : ∃ m', m = m' + 1 := ⟨m - 1, by omega⟩
    have hv0 : 0 ≤ v := by omega
    have hal : alw kd v := by
      refine ⟨fun z => ⟨?_, hv9 z⟩, fun _ => hv0⟩
      rw [if_pos z] at hlo
      omega
    rw [to243 m r _ _ v hr]
    unfold d_x8_tells_243 d_x8_tells_277 d_x8_tells_292
    rw [w32i (x := v) (by omega) (by omega), w32i (x := lo) (by omega) (by omega), if_neg (by omega), w32i (x := (p : Int)) (by omega) (by omega), if_pos (by omega), bd_eq, Int.toNat_natCast]
    have hrv : RV r0 p (up r 82 p v) := ⟨fun a k z => by rw [up_app, if_neg (by omega)]; exact hr.1 a k z, fun k z y x => by rw [up_ne (by omega)]; exact hr.2.1 k z y x, ⟨fun q hq => by rw [up_ne (by omega), up_ne (by omega), up_ne (by omega), up_ne (by omega), up_ne (by omega)]; exact hr.2.2.1 q hq, fun q hq => by rw [up_ne (by omega), up_ne (by omega), up_ne (by omega)]; exact hr.2.2.2 q hq⟩⟩
    have b := hB v (by omega) hal
    obtain ⟨r', e1, R'⟩ := b.2 _ hrv up_same
    rw [e1, bI_some]
    have hb' := hB1 v hal
    have hsg : sg B' (20 - (v - 1)).toNat = B' v + sg B' (20 - v).toNat := by
      rw [show (20 - (v - 1)).toNat = (20 - v).toNat + 1 by omega]
      show B' (20 - ((20 - v).toNat : Int)) + _ = _
      rw [show (20 : Int) - ((20 - v).toNat : Int) = v by omega]
    have hgg : gg B' (20 - (v - 1)).toNat = if B' v = 1 then v else gg B' (20 - v).toNat := by
      rw [show (20 - (v - 1)).toNat = (20 - v).toNat + 1 by omega]
      show (if B' (20 - ((20 - v).toNat : Int)) = 1 then (20 : Int) - ((20 - v).toNat : Int) else _) = _
      rw [show (20 : Int) - ((20 - v).toNat : Int) = v by omega]
    have i := ih m r' (v - 1) (by omega) (by omega) (fun z => by have := hv9 z; omega) (by omega) R'
    rw [hsg, hgg, hb'] at i
    rcases b.1 with b0 | b0
    · rw [b0, w32_0, if_pos rfl, bd_eq, if_pos rfl, bd_eq]
      rw [b0, if_neg (show ¬ (0 : Int) = 1 by decide), Int.zero_add] at i
      rw [Int.add_zero]
      exact i
    · rw [b0, w32_1, if_neg (show ¬ (1 : Int) = 0 by decide), bd_eq, if_neg (show ¬ (1 : Int) = 0 by decide), bd_eq]
      rw [b0, if_pos rfl, Int.add_comm] at i
      exact i
end
section
theorem e_isQ {N : Nat} {c : St} {a : Int} (h : r32 a) : d_x7_isQuestion N c a = some (c, if a = 0 ∨ (4 ≤ a ∧ a % 4 ≤ 1) then 1 else 0) := by
  unfold d_x7_isQuestion d_x7_isQuestion_16
  rw [w32r h]
  by_cases h0 : a = 0
  · rw [if_pos h0, if_pos (Or.inl h0)]
  · rw [if_neg h0]
    by_cases h4 : a < 4
    · rw [if_pos h4, if_neg (by omega)]
    · rw [if_neg h4, if_neg (show ¬ (4 : Nat) = 0 by decide), Int.tmod_eq_emod_of_nonneg (by omega), w32i (x := a % 4) (by omega) (by omega)]
      by_cases h1 : 1 < a % 4
      · rw [if_pos h1, if_neg (by omega)]
      · rw [if_neg h1, if_pos (by omega)]
theorem r_t83 {N : Nat} (hN : 20000 ≤ N) {c r : St} {h s : Nat} {a2 : Int} (h2 : r32 a2) (hh : h < 4) (hs : s < 8) (H : RG c r) (he : c 18 s ≠ 0) (hq : a2 = 0 ∨ (4 ≤ a2 ∧ a2 % 4 ≤ 1)) {x4 x5 : Int} (hx : a2 ≠ 0 → ∃ k : Nat, x4 = k ∧ x5 = ((24 * s + k : Nat) : Int) ∧ (k : Int) < c 18 s ∧ nb (c 19 (24 * s + k))) : Two (d_x7_tells_83 N c (h : Int) (s : Int) a2 x4) (d_x8_tells_98 N r (h : Int) (s : Int) a2 x5) (QG c r) := by
  have hsh := H.2.2.2.2.1
  have h52 := hsh.r52 hh
  have h126 := hsh.r126 hh
  have hg : 0 ≤ w32 (h : Int) ∧ w32 (h : Int) < ((4 : Nat) : Int) := (by ((try simp (disch := omega) only [w32i, Int.toNat_natCast]) <;> omega))
  unfold d_x7_tells_83 d_x8_tells_98
  refine Two.cL (e_miss c hh h52) ?_
  refine Two.iR hg ?_
  rw [w32i (x := (h : Int)) (by omega) (by omega), Int.toNat_natCast, h126]
  by_cases hm : c 52 h = -1
  · rw [if_pos hm, if_pos hm]
    refine Two.eL (by decide) (Two.iR (by decide) ?_)
    exact Two.ret rfl (QG.refl H _)
  rw [if_neg hm, if_neg hm]
  refine Two.iL (by decide) (Two.eR (by decide) ?_)
  rcases hsh h hh with z | ⟨z1, z2, z3, z4, z5, z6, z7⟩
  · exact absurd z.1 hm
  refine Two.iL (by omega) (Two.iR (by omega) ?_)
  rw [z4, w32i (x := c 53 h) (by omega) (by omega)]
  by_cases h16 : 16 < c 53 h
  · refine Two.iL h16 (Two.iR h16 ?_)
    exact Two.ret rfl (QG.refl H _)
  refine Two.eL h16 (Two.eR h16 ?_)
  obtain ⟨n, hn⟩ : ∃ n : Nat, c 53 h = n := ⟨(c 53 h).toNat, by omega⟩
  have h2' := h2
  unfold r32 at h2'
  by_cases h0 : a2 = 0
  · subst h0
    refine Two.iL (by decide) ?_
    refine Two.tailL ?_
    unfold d_x7_tellingStreams
    exact L_ts hN hh (by omega) c r (s : Int) x5 8 N c r 0 0 (by omega) (by omega) (by unfold r32; omega) H hm hn (fun _ _ _ => rfl) (fun _ _ _ => rfl)
  · obtain ⟨k, rfl, rfl, hk, hnb⟩ := hx h0
    have h18 := (H.p18 s hs).1
    have hp : 24 * s + k < 192 := by omega
    have hd : (24 * s + k) % 24 = k ∧ (24 * s + k) / 24 = s := sk (by omega)
    have hv : (((24 * s + k) % 24 : Nat) : Int) < c 18 ((24 * s + k) / 24) := by rw [hd.1, hd.2]; exact hk
    have kd := H.kd hp hv
    have nm := H.nm hp hv (by unfold nb at hnb; omega)
    clear hx
    generalize hpe : 24 * s + k = p at *
    obtain ⟨B, hB⟩ := L_B hN H (s := s) (h := h) (n := n) (p := p) hs he hh (by omega) hm hn hp hv hnb
    obtain ⟨B', hB'⟩ : ∃ B' : Int → Int, B' = fun v => @ite _ (alw (c 19 p) v) (Classical.propDecidable _) (B v) 0 := ⟨_, rfl⟩
    have hB1 : ∀ v, alw (c 19 p) v → B' v = B v := fun v ha => by rw [hB']; exact if_pos ha
    have hB0 : ∀ v, ¬ alw (c 19 p) v → B' v = 0 := fun v ha => by rw [hB']; exact if_neg ha
    have tm : Int.tmod a2 4 = a2 % 4 := Int.tmod_eq_emod_of_nonneg (by omega)
    -- the class
    have EC : ∀ x4 : Int, (x4 = 0 ∨ x4 = 1) → ∃ c', d_x7_tellingNumbers N c (h : Int) (s : Int) (k : Int) x4 = some (c', if x4 = 0 then sg B' 21 else gg B' 21) ∧ (∀ a k, ¬ (a = 50 ∨ (38 ≤ a ∧ a ≤ 49)) → c' a k = c a k) ∧ UT 38 c' := by
      intro x4 hx4
      obtain ⟨c', i1, i2, i3⟩ := L_tnC (N := N) (c0 := c) (s := s) (h := h) (p := p) hp ⟨kd.2.2.2.2.1, kd.2.2.2.2.2.1⟩ B (fun v a b => ⟨(hB v a b).1, (hB v a b).2.1⟩) B' hB1 hB0 x4 hx4 21 N c 0 (-1) (by omega) (by omega) ⟨fun _ _ _ => rfl, H.2.2.1.1⟩ (Or.inl rfl)
      refine ⟨c', ?_, i2, i3⟩
      unfold d_x7_tellingNumbers
      have ep : ((s : Int) * 24 + (k : Int)) = (p : Int) := by omega
      rw [bd_eq, ep, w32i (x := (p : Int)) (by omega) (by omega), if_pos (by omega), bd_eq, Int.toNat_natCast]
      rw [show (21 : Int) - ((21 : Nat) : Int) = 0 from rfl, Int.zero_add, if_pos (show (-1 : Int) = -1 from rfl)] at i1
      exact i1
    -- the model
    obtain ⟨lo, hlo⟩ : ∃ lo : Int, lo = if c 19 p = 13 then 1 else 0 := ⟨_, rfl⟩
    have fin : (if a2 % 4 = 0 then sg B' (21 - lo).toNat else gg B' (21 - lo).toNat) = (if a2 % 4 = 0 then sg B' 21 else gg B' 21) := by
      by_cases h13 : c 19 p = 13
      · rw [if_pos h13] at hlo
        subst hlo
        have b0 : B' 0 = 0 := hB0 0 (fun z => by have := z.1 h13; omega)
        have e1 : sg B' 21 = sg B' 20 := by
          show B' (20 - ((20 : Nat) : Int)) + sg B' 20 = _
          rw [show (20 : Int) - ((20 : Nat) : Int) = 0 from rfl, b0, Int.zero_add]
        have e2 : gg B' 21 = gg B' 20 := by
          show (if B' (20 - ((20 : Nat) : Int)) = 1 then (20 : Int) - ((20 : Nat) : Int) else gg B' 20) = _
          rw [show (20 : Int) - ((20 : Nat) : Int) = 0 from rfl, b0, if_neg (by decide)]
        rw [e1, e2]
        rfl
      · rw [if_neg h13] at hlo
        subst hlo
        rfl
    have ER : ∃ r', d_x8_tells_130L N N r (h : Int) (s : Int) a2 (p : Int) 0 0 = some (r', if a2 % 4 = 0 then sg B' 21 else gg B' 21) ∧ (∀ a k, ¬ (a = 77 ∨ (86 ≤ a ∧ a ≤ 93) ∨ (103 ≤ a ∧ a ≤ 109)) → r' a k = r a k) ∧ (∀ k, k ≠ 36 → k ≠ 37 → k ≠ 38 → r' 77 k = r 77 k) ∧ RS r r' := by
      have hr0 : RV r p r := ⟨fun _ _ _ => rfl, fun _ _ _ _ => rfl, RS.refl H.2.1.2.1 H.2.1.2.2.2⟩
      have to181 : d_x8_tells_130L N N r (h : Int) (s : Int) a2 (p : Int) 0 0 = (if c 19 p = 13 then d_x8_tells_224L N N r (h : Int) (s : Int) a2 (p : Int) (r 82 p) 0 (-1) 9 else d_x8_tells_224L N N r (h : Int) (s : Int) a2 (p : Int) (r 82 p) 0 (-1) 20) := by
        obtain ⟨m, hm⟩ : ∃ m, N = m + 1 := ⟨N - 1, by omega⟩
        have : d_x8_tells_130L N N r (h : Int) (s : Int) a2 (p : Int) 0 0 = d_x8_tells_130 N (d_x8_tells_130L N m) r (h : Int) (s : Int) a2 (p : Int) 0 0 := by
          conv => lhs; arg 2; rw [hm]
          rfl
        rw [this]
        unfold d_x8_tells_130 d_x8_tells_181 d_x8_tells_222
        rw [if_pos (show w32 0 < 8 by decide), w32r h2, if_neg h0, if_neg h0, w32i (x := (p : Int)) (by omega) (by omega), if_pos (by omega), bd_eq, if_pos (by omega), Int.toNat_natCast, kd.1, w32i (x := c 19 p) (by omega) (by omega)]
      rw [to181]
      have gen : ∀ v : Int, (v = 9 ∧ c 19 p = 13) ∨ (v = 20 ∧ c 19 p ≠ 13) → ∃ r', d_x8_tells_224L N N r (h : Int) (s : Int) a2 (p : Int) (r 82 p) 0 (-1) v = some (r', if a2 % 4 = 0 then sg B' 21 else gg B' 21) ∧ (∀ a k, ¬ (a = 77 ∨ (86 ≤ a ∧ a ≤ 93) ∨ (103 ≤ a ∧ a ≤ 109)) → r' a k = r a k) ∧ (∀ k, k ≠ 36 → k ≠ 37 → k ≠ 38 → r' 77 k = r 77 k) ∧ RS r r' := by
        intro v hv
        have z0 : sg B' (20 - v).toNat = 0 ∧ gg B' (20 - v).toNat = -1 := by
          refine sg_0 _ (fun i hi => hB0 _ (fun z => ?_))
          rcases hv with ⟨x1, x2⟩ | ⟨x1, x2⟩
          · have := z.1 x2
            omega
          · omega
        have hlo2 : (c 19 p = 13 ∧ lo = 1) ∨ (c 19 p ≠ 13 ∧ lo = 0) := by
          by_cases e : c 19 p = 13
          · rw [if_pos e] at hlo
            exact Or.inl ⟨e, hlo⟩
          · rw [if_neg e] at hlo
            exact Or.inr ⟨e, hlo⟩
        have i := L_tnM (N := N) (r0 := r) (s := s) (h := h) (p := p) hp (kd := c 19 p) ⟨kd.1, kd.2.2.2.2.1, kd.2.2.2.2.2.1⟩ B (fun v a b => ⟨(hB v a b).1, (hB v a b).2.2⟩) B' hB1 (x3 := a2) (by omega) (lo := lo) hlo (v + 1 - lo).toNat N r v (by omega) (by omega) (fun z => by omega) (by omega) hr0
        rw [z0.1, z0.2, fin] at i
        exact i
      by_cases h13 : c 19 p = 13
      · rw [if_pos h13]
        exact gen 9 (Or.inl ⟨rfl, h13⟩)
      · rw [if_neg h13]
        exact gen 20 (Or.inr ⟨rfl, h13⟩)
    obtain ⟨r', er1, er2, er3, er4⟩ := ER
    rw [er1]
    refine Two.eL (by rw [w32r h2]; exact h0) (Two.eL (show ¬ (4 : Nat) = 0 by decide) ?_)
    rw [w32r h2, tm, w32i (x := a2 % 4) (by omega) (by omega)]
    unfold d_x7_tells_143
    by_cases h1 : a2 % 4 = 1
    · obtain ⟨c', ec1, ec2, ec3⟩ := EC 1 (Or.inr rfl)
      refine Two.iL h1 ?_
      refine Two.cL ec1 ?_
      refine Two.ret ?_ (S_think H ec2 er2 er3 er4 ec3 _)
      rw [if_neg (by omega), if_neg (by decide)]
    · obtain ⟨c', ec1, ec2, ec3⟩ := EC 0 (Or.inl rfl)
      refine Two.eL h1 ?_
      refine Two.cL ec1 ?_
      refine Two.ret ?_ (S_think H ec2 er2 er3 er4 ec3 _)
      rw [if_pos (by omega), if_pos rfl]
/-- tells() -/
theorem r_tells {N : Nat} (hN : 20000 ≤ N) {c r : St} {a0 a1 a2 : Int} (h0 : r32 a0) (h1 : r32 a1) (h2 : r32 a2) (H : RG c r) : Two (d_x7_tells N c a0 a1 a2) (d_x8_tells N r a0 a1 a2) (QG c r) := by
  unfold d_x7_tells d_x8_tells
  by_cases hh : 0 ≤ a0 ∧ a0 < 4
  · refine Two.cL (H7t h0 hh) (Two.eL (by decide) ?_)
    refine Two.cR (H8t h0 hh) (Two.eR (by decide) ?_)
    by_cases hs : 0 ≤ a1 ∧ a1 < 8
    · refine Two.cL (S7t h1 hs) (Two.eL (by decide) ?_)
      refine Two.cR (S8t h1 hs) (Two.eR (by decide) ?_)
      refine Two.cL (e_isQ h2) ?_
      have h2' := h2
      unfold r32 at h2'
      by_cases hq : a2 = 0 ∨ (4 ≤ a2 ∧ a2 % 4 ≤ 1)
      · rw [if_pos hq]
        refine Two.eL (by decide) ?_
        obtain ⟨h, rfl⟩ : ∃ h : Nat, a0 = h := ⟨a0.toNat, by omega⟩
        obtain ⟨s, rfl⟩ : ∃ s : Nat, a1 = s := ⟨a1.toNat, by omega⟩
        have hps := H.p18 s (by omega)
        have key : Two (bI (d_x7_isEmpty N c (s : Int)) fun s13 v14 => (if (w32 v14) = 0 then if 4 = 0 then none else bd ((Int.tdiv (w32 a2) 4) - 1) fun v15 => (if (w32 a2) = 0 then d_x7_tells_83 N  s13 (h : Int) (s : Int) a2 v15 else bI (d_x7_hasPart N  s13 (s : Int) v15) fun s16 v17 => (if (w32 v17) = 0 then some (s16, (-12)) else if 0 ≤ (w32 (((s : Int) * 24) + v15)) ∧ (w32 (((s : Int) * 24) + v15)) < ((192 : Nat) : Int) then bI (d_x0_hasNumber N  s16 (s16 19 (Int.toNat (w32 (((s : Int) * 24) + v15))))) fun s18 v19 => (if (w32 v19) = 0 then some (s18, (-13)) else d_x7_tells_83 N  s18 (h : Int) (s : Int) a2 v15) else none)) else some (s13, (-3)))) (d_x8_tells_33 N r (h : Int) (s : Int) a2) (QG c r) := by
          unfold d_x8_tells_33
          refine Two.cL (Em (by omega) hps.1) ?_
          refine Two.iR (by ((try simp (disch := omega) only [w32i, Int.toNat_natCast]) <;> omega)) ?_
          rw [w32i (x := (s : Int)) (by omega) (by omega), Int.toNat_natCast, hps.2, w32i (x := c 18 s) (by omega) (by omega)]
          by_cases he : c 18 s = 0
          · rw [if_pos he]
            refine Two.eL (by decide) (Two.iR he ?_)
            exact Two.ret rfl (QG.refl H _)
          · rw [if_neg he]
            refine Two.iL (by decide) (Two.eR he ?_)
            refine Two.eL (show ¬ (4 : Nat) = 0 by decide) (Two.bdL ?_)
            refine Two.eR (show ¬ (4 : Nat) = 0 by decide) (Two.bdR (Two.bdR ?_))
            rw [w32r h2, Int.tdiv_eq_ediv_of_nonneg (by omega)]
            by_cases hz : a2 = 0
            · refine Two.iL hz (Two.iR hz ?_)
              unfold d_x8_tells_78
              refine Two.iR (by rw [w32r h2]; exact hz) ?_
              exact r_t83 hN h2 (by omega) (by omega) H he hq (fun z => absurd hz z)
            · refine Two.eL hz (Two.eR hz ?_)
              obtain ⟨k, hk⟩ : ∃ k : Nat, a2 / 4 - 1 = k := ⟨(a2 / 4 - 1).toNat, by omega⟩
              rw [hk]
              have hkr : r32 (k : Int) := by unfold r32; omega
              refine Two.cL (e_hasP (by omega) hkr hps.1) ?_
              refine Two.cR (e_isP (by omega) hkr (by omega)) ?_
              rw [hps.2]
              by_cases hkp : (k : Int) < c 18 s
              · rw [if_pos (show 0 ≤ (k : Int) ∧ (k : Int) < c 18 s by omega)]
                refine Two.eL (by decide) (Two.eR (by decide) ?_)
                have hd : (24 * s + k) % 24 = k ∧ (24 * s + k) / 24 = s := sk (by omega)
                have kd := H.kd (p := 24 * s + k) (by omega) (by rw [hd.1, hd.2]; exact hkp)
                have e1 : ((s : Int) * 24 + (k : Int)) = ((24 * s + k : Nat) : Int) := by omega
                have e2 : (24 * (s : Int) + (k : Int)) = ((24 * s + k : Nat) : Int) := by omega
                rw [e1, e2]
                unfold d_x8_tells_78
                refine Two.iL (by ((try simp (disch := omega) only [w32i, Int.toNat_natCast]) <;> omega)) ?_
                refine Two.eR (by rw [w32r h2]; exact hz) (Two.iR (by ((try simp (disch := omega) only [w32i, Int.toNat_natCast]) <;> omega)) ?_)
                rw [w32i (x := ((24 * s + k : Nat) : Int)) (by omega) (by omega), Int.toNat_natCast, kd.1]
                have a := e_hn (N := N) (s := c) (k := c 19 (24 * s + k)) ⟨kd.2.2.2.2.1, kd.2.2.2.2.2.1⟩
                have b := e_in8 (N := N) (s := r) (k := c 19 (24 * s + k)) ⟨kd.2.2.2.2.1, kd.2.2.2.2.2.1⟩
                by_cases hnb : nb (c 19 (24 * s + k))
                · refine Two.cL (a.1 hnb) (Two.eL (by decide) ?_)
                  refine Two.cR (b.1 hnb) (Two.eR (by decide) ?_)
                  exact r_t83 hN h2 (by omega) (by omega) H he hq (fun _ => ⟨k, rfl, rfl, hkp, hnb⟩)
                · refine Two.cL (a.2 hnb) (Two.iL (by decide) ?_)
                  refine Two.cR (b.2 hnb) (Two.iR (by decide) ?_)
                  exact Two.ret rfl (QG.refl H _)
              · rw [if_neg (show ¬ (0 ≤ (k : Int) ∧ (k : Int) < c 18 s) by omega)]
                refine Two.iL (by decide) (Two.iR (by decide) ?_)
                exact Two.ret rfl (QG.refl H _)
        by_cases hz : a2 = 0
        · refine Two.iR (by rw [w32r h2]; exact hz) ?_
          exact key
        · refine Two.eR (by rw [w32r h2]; exact hz) (Two.eR (by rw [w32r h2]; omega) (Two.eR (show ¬ (4 : Nat) = 0 by decide) (Two.eR ?_ ?_)))
          · rw [w32r h2, Int.tmod_eq_emod_of_nonneg (by omega), w32i (x := a2 % 4) (by omega) (by omega)]
            omega
          · exact key
      · rw [if_neg hq]
        refine Two.iL (by decide) ?_
        refine Two.eR (by rw [w32r h2]; omega) ?_
        by_cases h4 : a2 < 4
        · refine Two.iR (by rw [w32r h2]; exact h4) ?_
          exact Two.ret rfl (QG.refl H _)
        · refine Two.eR (by rw [w32r h2]; exact h4) (Two.eR (show ¬ (4 : Nat) = 0 by decide) (Two.iR ?_ ?_))
          · rw [w32r h2, Int.tmod_eq_emod_of_nonneg (by omega), w32i (x := a2 % 4) (by omega) (by omega)]
            omega
          · exact Two.ret rfl (QG.refl H _)
    · refine Two.cL (S7f h1 hs) (Two.iL (by decide) ?_)
      refine Two.cR (S8f h1 hs) (Two.iR (by decide) ?_)
      exact Two.ret rfl (QG.refl H _)
  · refine Two.cL (H7f h0 hh) (Two.iL (by decide) ?_)
    refine Two.cR (H8f h0 hh) (Two.iR (by decide) ?_)
    exact Two.ret rfl (QG.refl H _)
end
section
theorem tx_pt {c c' r r' : St} {a k : Nat} (h1 : (18 ≤ a ∧ a ≤ 25) → c' a k = c a k) (h2 : (78 ≤ a ∧ a ≤ 85) → r' a k = r a k) : tx c' r' a k = tx c r a k := by
  unfold tx
  by_cases e1 : 18 ≤ a ∧ a ≤ 25
  · rw [if_pos e1, if_pos e1]; exact h1 e1
  · rw [if_neg e1, if_neg e1]
    by_cases e2 : 78 ≤ a ∧ a ≤ 85
    · rw [if_pos e2, if_pos e2]; exact h2 e2
    · rw [if_neg e2, if_neg e2]
/-- a text has changed: all is untold -/
theorem S_unt {N : Nat} (hN : 200 ≤ N) {c r c1 r1 : St} (H : RG c r) (ec : ∀ a k, ¬ ((1 ≤ a ∧ a ≤ 14) ∨ (18 ≤ a ∧ a ≤ 25)) → c1 a k = c a k) (er : ∀ a k, ¬ (77 ≤ a ∧ a ≤ 85) → ¬ (94 ≤ a ∧ a ≤ 101) → r1 a k = r a k) (er7 : ∀ k, (k = 9 ∨ k = 39 ∨ k = 63 ∨ k = 64) → r1 77 k = r 77 k) (hT : RT c1 r1) (X : XT (tx c1 r1)) : ∃ c2 r2 w w', d_x6_untell N 26 c1 = some (c2, w) ∧ d_x8_untells N r1 = some (r2, w') ∧ ∀ v, QG c r c2 r2 v := by
  have hU : UT 26 c1 := (UT.of H.2.1.2.2.1 H.2.1.2.1).cong (fun a k _ _ => ec a k (by omega))
  obtain ⟨c2, w, e1, Z1, f1, f8, f9⟩ := e_untell (N := N) hN hU
  obtain ⟨r2, w', e2, Z2, g1⟩ := e_untells (N := N) hN r1
  have hkb : KB 26 c2 := fun k hk => by rw [f9]; exact hU.2.2.2.1 k hk
  have htx : tx c2 r2 = tx c1 r1 := tx_cong (fun a k _ _ => f1 a k (by omega)) (fun a k _ _ => g1 a k (by omega))
  have hts := Z1.ts (T := tx c1 r1) Z2 hkb
  have ec2 : ∀ a k, ¬ ((1 ≤ a ∧ a ≤ 14) ∨ (18 ≤ a ∧ a ≤ 37)) → c2 a k = c a k := fun a k z => (f1 a k (by omega)).trans (ec a k (by omega))
  have er2 : ∀ a k, ¬ (77 ≤ a ∧ a ≤ 91) → ¬ (94 ≤ a ∧ a ≤ 101) → r2 a k = r a k := fun a k z y => (g1 a k (by omega)).trans (er a k (by omega) y)
  have er7' : ∀ k, (k = 9 ∨ k = 39 ∨ k = 63 ∨ k = 64) → r2 77 k = r 77 k := fun k z => (g1 _ _ (by omega)).trans (er7 k z)
  refine ⟨c2, r2, w, w', e1, e2, fun v => ⟨⟨hT.cong (f1 _ _ (by omega)) (fun k => f1 _ _ (by omega)) (g1 _ _ (by omega)) (fun k => g1 _ _ (by omega)), ?_, ⟨H.2.2.1.1.cong (fun a k _ _ => ec2 a k (by omega)), H.2.2.1.2.cong (fun a k _ _ => ec2 a k (by omega))⟩, H.2.2.2.1.cong (fun a k _ _ => ec2 a k (by omega)) (ec2 _ _ (by omega)) (ec2 _ _ (by omega)) (fun a k _ _ => er2 a k (by omega) (by omega)) (er7' _ (by omega)) (er7' _ (by omega)), H.2.2.2.2.1.cong (fun a k _ _ => ec2 a k (by omega)) (fun a k _ _ => er2 a k (by omega) (by omega)), H.2.2.2.2.2.1.cong (ec2 _ _ (by omega)) (er7' _ (by omega)), H.2.2.2.2.2.2.cong (ec2 _ _ (by omega)) (er7' _ (by omega))⟩, fun a k _ => ec2 a k (by omega), fun a k _ => er2 a k (by omega) (by omega)⟩⟩
  unfold TT
  rw [htx]
  exact ⟨X, hts.1, hts.2, fun p hp => ⟨(Z1.2 p hp).2.2.2.1, fun i hi => by rw [(Z1.2 p hp).2.2.2.2.2.2.2 i hi]; decide⟩⟩
/-- feed() -/
theorem r_feed {N : Nat} {c r : St} {a0 : Int} (h0 : r32 a0) (H : RG c r) : Two (d_x7_feed N c a0) (d_x8_feed N r a0) (QG c r) := by
  have hT := H.1
  unfold RT at hT
  unfold d_x7_feed d_x8_feed
  by_cases hi : 0 ≤ a0 ∧ a0 ≤ 255
  · refine Two.cR (int h0 (by unfold r32; omega) (by unfold r32; omega) hi) (Two.eR (by decide) ?_)
    refine Two.eL (by rw [w32r h0]; omega) (Two.eL (by rw [w32r h0]; omega) ?_)
    unfold d_x2_addByte
    obtain ⟨n, hn⟩ : ∃ n : Nat, c 1 1 = n := ⟨(c 1 1).toNat, by omega⟩
    rw [hT.1, hn, w32i (x := (n : Int)) (by omega) (by omega)]
    by_cases hf : n = 120
    · refine Two.iR (by omega) ?_
      rw [if_neg (by omega)]
      exact Two.ret rfl (QG.refl H _)
    · refine Two.eR (by omega) (Two.iR (by omega) (Two.bdR (Two.bdR ?_)))
      rw [if_pos (by omega), if_pos (by omega), bd_eq, bd_eq, Int.toNat_natCast, up_ne (s := c) (a := 11) (by omega), hn, up_ne (s := r) (a := 94) (by omega), hT.1, hn]
      refine Two.cL rfl ?_
      refine Two.ret (by rw [up_same, up_same]) ⟨⟨?_, H.2.1.cong (fun a k _ _ => by rw [up_ne (by omega), up_ne (by omega)]) (fun a k _ _ => by rw [up_ne (by omega), up_ne (by omega)]), ⟨H.2.2.1.1.cong (fun a k _ _ => by rw [up_ne (by omega), up_ne (by omega)]), H.2.2.1.2.cong (fun a k _ _ => by rw [up_ne (by omega), up_ne (by omega)])⟩, H.2.2.2.1.cong (fun a k _ _ => by rw [up_ne (by omega), up_ne (by omega)]) (by rw [up_ne (by omega), up_ne (by omega)]) (by rw [up_ne (by omega), up_ne (by omega)]) (fun a k _ _ => by rw [up_ne (by omega), up_ne (by omega)]) (by rw [up_nj (by omega), up_ne (by omega)]) (by rw [up_nj (by omega), up_ne (by omega)]), H.2.2.2.2.1.cong (fun a k _ _ => by rw [up_ne (by omega), up_ne (by omega)]) (fun a k _ _ => by rw [up_ne (by omega), up_ne (by omega)]), H.2.2.2.2.2.1.cong (by rw [up_ne (by omega), up_ne (by omega)]) (by rw [up_nj (by omega), up_ne (by omega)]), H.2.2.2.2.2.2.cong (by rw [up_ne (by omega), up_ne (by omega)]) (by rw [up_nj (by omega), up_ne (by omega)])⟩, fun a k _ => by rw [up_ne (by omega), up_ne (by omega)], fun a k _ => by rw [up_ne (by omega), up_ne (by omega)]⟩
      unfold RT
      rw [up_same, up_same]
      refine ⟨rfl, by omega, by omega, fun i hi' => ?_⟩
      rw [up_ne (a := 77) (b := 94) (by omega), up_ne (a := 1) (b := 11) (by omega)]
      by_cases e : i = n
      · subst e
        rw [up_same, up_same]
        omega
      · rw [up_nj e, up_nj e]
        exact hT.2.2.2 i (by omega)
  · refine Two.cR (inf h0 (by unfold r32; omega) (by unfold r32; omega) hi) (Two.iR (by decide) ?_)
    by_cases hn : a0 < 0
    · refine Two.iL (by rw [w32r h0]; exact hn) ?_
      exact Two.ret rfl (QG.refl H _)
    · refine Two.eL (by rw [w32r h0]; exact hn) (Two.iL (by rw [w32r h0]; omega) ?_)
      exact Two.ret rfl (QG.refl H _)
theorem XT.empty {T T' : St} (X : XT T) {s : Nat} (e0 : T' 18 s = 0 ∧ T' 78 s = 0) (e : ∀ a k, ¬ ((a = 18 ∨ a = 78) ∧ k = s) → T' a k = T a k) : XT T' := by
  have hvp : ∀ p, VP T' p → p / 24 ≠ s ∧ VP T p := by
    intro p hp
    unfold VP at *
    by_cases h : p / 24 = s
    · rw [h, e0.1] at hp
      omega
    · rw [e 18 _ (by omega)] at hp
      exact ⟨h, hp⟩
  have hvp2 : ∀ p q, p / 24 ≠ s → q / 24 = p / 24 → VP T q → VP T' q := by
    intro p q h1 h2 hq
    unfold VP at *
    rw [e 18 _ (by omega)]
    exact hq
  refine ⟨⟨fun a ha => ?_, fun p hp => ?_⟩, fun a ha => ?_⟩
  · by_cases h : a = s
    · subst h
      rw [e0.1, e0.2]
      omega
    · rw [e 18 a (by omega), e 78 a (by omega)]
      exact X.1.1 a ha
  · obtain ⟨h1, h2⟩ := hvp p hp
    have w := X.1.2 p h2
    have ee : ∀ a k, 19 ≤ a → a ≠ 78 → T' a k = T a k := fun a k x y => e a k (by omega)
    unfold WFp at *
    simp (disch := omega) only [ee]
    obtain ⟨w1, w2, w3, w4, w5, w6, w7, w8, w9, w10, w11, w12, w13⟩ := w
    exact ⟨w1, w2, w3, w4, w5, w6, w7, w8, w9, w10, w11, fun z => ⟨hvp2 p _ h1 (w12 z).2 (w12 z).1, (w12 z).2⟩, fun z => ⟨hvp2 p _ h1 (w13 z).2 (w13 z).1, (w13 z).2⟩⟩
  · by_cases h : a = s
    · subst h
      unfold PW
      rw [e0.1]
      left
      refine ⟨by show (0 : Int) ≤ 120; decide, fun k hk => by omega⟩
    · have w := X.2 a ha
      have ee : ∀ a k, 19 ≤ a → a ≠ 78 → T' a k = T a k := fun a k x y => e a k (by omega)
      have e18 : T' 18 a = T 18 a := e 18 a (by omega)
      unfold PW tk at *
      rw [e18]
      simp (disch := omega) only [ee]
      exact w
/-- empty() -/
theorem r_empty {N : Nat} (hN : 200 ≤ N) {c r : St} {a0 : Int} (h0 : r32 a0) (H : RG c r) : Two (d_x7_empty N c a0) (d_x8_empty N r a0) (QG c r) := by
  unfold d_x7_empty d_x8_empty
  by_cases hs : 0 ≤ a0 ∧ a0 < 8
  · refine Two.cL (S7t h0 hs) (Two.eL (by decide) ?_)
    refine Two.cR (S8t h0 hs) (Two.eR (by decide) ?_)
    obtain ⟨s, rfl⟩ : ∃ s : Nat, a0 = s := ⟨a0.toNat, by omega⟩
    have hps := H.p18 s (by omega)
    refine Two.iL (by ((try simp (disch := omega) only [w32i, Int.toNat_natCast]) <;> omega)) (Two.bdL (Two.iL (by ((try simp (disch := omega) only [w32i, Int.toNat_natCast]) <;> omega)) (Two.bdL ?_)))
    refine Two.iR (by ((try simp (disch := omega) only [w32i, Int.toNat_natCast]) <;> omega)) (Two.bdR (Two.iR (by ((try simp (disch := omega) only [w32i, Int.toNat_natCast]) <;> omega)) (Two.bdR ?_)))
    rw [w32i (x := (s : Int)) (by omega) (by omega), Int.toNat_natCast]
    have hX : XT (tx (up c 18 s 0) (up r 78 s 0)) := by
      refine H.2.1.1.empty (s := s) ⟨?_, ?_⟩ (fun a k z => ?_)
      · rw [← tx_ct _ _ 18 s (by omega) (by omega), up_same]
      · rw [← tx_rt _ _ 78 s (by omega) (by omega), up_same]
      · exact tx_pt (fun _ => by rw [up_app, if_neg (by omega)]) (fun _ => by rw [up_app, if_neg (by omega)])
    obtain ⟨c2, r2, w, w', e1, e2, q⟩ := S_unt hN (c1 := up c 18 s 0) (r1 := up r 78 s 0) H (fun a k z => up_ne (by omega)) (fun a k z y => up_ne (by omega)) (fun k z => up_ne (by omega)) (H.1.cong (up_ne (by omega)) (fun k => up_ne (by omega)) (up_ne (by omega)) (fun k => up_ne (by omega))) hX
    refine Two.vL e1 ?_
    refine Two.vR e2 ?_
    exact Two.ret hps.2 (q _)
  · refine Two.cL (S7f h0 hs) (Two.iL (by decide) ?_)
    refine Two.cR (S8f h0 hs) (Two.iR (by decide) ?_)
    exact Two.ret rfl (QG.refl H _)
theorem tx_tv {c r : St} {p : Nat} {v : Int} : tx (up c 21 p v) (up r 82 p v) = tv (tx c r) p v := by
  funext a k
  by_cases e : (a = 21 ∨ a = 82) ∧ k = p
  · obtain ⟨rfl | rfl, rfl⟩ := e
    · rw [tv_p (Or.inl rfl), ← tx_ct _ _ 21 k (by omega) (by omega), up_same]
    · rw [tv_p (Or.inr rfl), ← tx_rt _ _ 82 k (by omega) (by omega), up_same]
  · rw [tv_ne e]
    exact tx_pt (fun _ => by rw [up_app, if_neg (by omega)]) (fun _ => by rw [up_app, if_neg (by omega)])
theorem PW.num {T : St} {p s : Nat} {v : Int} (h : PW T s) : PW (tv T p v) s := by
  unfold PW tk at *
  simp (disch := omega) only [tv_ne]
  exact h
/-- twist() -/
theorem r_twist {N : Nat} (hN : 200 ≤ N) {c r : St} {a0 a1 a2 : Int} (h0 : r32 a0) (h1 : r32 a1) (h2 : r32 a2) (H : RG c r) : Two (d_x7_twist N c a0 a1 a2) (d_x8_twist N r a0 a1 a2) (QG c r) := by
  unfold d_x7_twist d_x8_twist
  have h2' := h2
  unfold r32 at h2'
  by_cases hs : 0 ≤ a0 ∧ a0 < 8
  · refine Two.cL (S7t h0 hs) (Two.eL (by decide) ?_)
    refine Two.cR (S8t h0 hs) (Two.eR (by decide) ?_)
    by_cases hi : -9999 ≤ a2 ∧ a2 ≤ 9999
    · refine Two.cR (int h2 (by unfold r32; omega) (by unfold r32; omega) hi) (Two.eR (by decide) ?_)
      refine Two.eL (by rw [w32r h2]; omega) (Two.eL (by rw [w32r h2]; omega) ?_)
      obtain ⟨s, rfl⟩ : ∃ s : Nat, a0 = s := ⟨a0.toNat, by omega⟩
      have hps := H.p18 s (by omega)
      refine Two.cL (Em (by omega) hps.1) ?_
      refine Two.iR (by ((try simp (disch := omega) only [w32i, Int.toNat_natCast]) <;> omega)) ?_
      rw [w32i (x := (s : Int)) (by omega) (by omega), Int.toNat_natCast, hps.2, w32i (x := c 18 s) (by omega) (by omega)]
      by_cases he : c 18 s = 0
      · rw [if_pos he]
        refine Two.eL (by decide) (Two.iR he ?_)
        exact Two.ret rfl (QG.refl H _)
      · rw [if_neg he]
        refine Two.iL (by decide) (Two.eR he ?_)
        refine Two.cL (e_hasP (by omega) h1 hps.1) ?_
        refine Two.cR (e_isP (by omega) h1 (by omega)) ?_
        rw [hps.2]
        by_cases hkp : 0 ≤ a1 ∧ a1 < c 18 s
        · rw [if_pos hkp]
          refine Two.eL (by decide) (Two.eR (by decide) ?_)
          obtain ⟨k, rfl⟩ : ∃ k : Nat, a1 = k := ⟨a1.toNat, by omega⟩
          have hd : (24 * s + k) % 24 = k ∧ (24 * s + k) / 24 = s := sk (by omega)
          have hvv : (((24 * s + k) % 24 : Nat) : Int) < c 18 ((24 * s + k) / 24) := by rw [hd.1, hd.2]; exact hkp.2
          have kd := H.kd (p := 24 * s + k) (by omega) hvv
          have e1 : ((s : Int) * 24 + (k : Int)) = ((24 * s + k : Nat) : Int) := by omega
          have e2 : (24 * (s : Int) + (k : Int)) = ((24 * s + k : Nat) : Int) := by omega
          refine Two.bdL (Two.bdR ?_)
          rw [e1, e2]
          have hp : 24 * s + k < 192 := by omega
          have hwf := H.wf hp hvv
          generalize hpe : 24 * s + k = p at *
          have hg : 0 ≤ w32 (p : Int) ∧ w32 (p : Int) < ((192 : Nat) : Int) := (by ((try simp (disch := omega) only [w32i, Int.toNat_natCast]) <;> omega))
          refine Two.iL hg (Two.bdL ?_)
          refine Two.iR hg ?_
          rw [w32i (x := (p : Int)) (by omega) (by omega), Int.toNat_natCast, kd.1]
          have a := e_hn (N := N) (s := c) (k := c 19 p) ⟨kd.2.2.2.2.1, kd.2.2.2.2.2.1⟩
          have b := e_in8 (N := N) (s := r) (k := c 19 p) ⟨kd.2.2.2.2.1, kd.2.2.2.2.2.1⟩
          by_cases hnb : nb (c 19 p)
          · refine Two.cL (a.1 hnb) (Two.eL (by decide) ?_)
            refine Two.cR (b.1 hnb) (Two.eR (by decide) ?_)
            refine Two.cL (e_allow ⟨kd.2.2.2.2.1, kd.2.2.2.2.2.1⟩ h2) ?_
            refine Two.iR (by omega) ?_
            rw [kd.1, w32i (x := c 19 p) (by omega) (by omega)]
            have e127 : ∀ B : Option Rs, B = d_x8_twist_127 N r a2 (p : Int) → alw (c 19 p) a2 → Two (if 0 ≤ (p : Int) ∧ (p : Int) < ((192 : Nat) : Int) then bd (up c 21 p a2) fun s13 => bV (d_x6_untell N 26 s13 ) fun s14 => some (s14, 1) else none) B (QG c r) := by
              intro B hB ha
              rw [hB]
              unfold d_x8_twist_127
              refine Two.iL (by omega) (Two.bdL ?_)
              refine Two.iR hg (Two.bdR ?_)
              rw [w32i (x := (p : Int)) (by omega) (by omega), Int.toNat_natCast, w32r h2]
              have k19 : tx c r 19 p = c 19 p := (tx_ct c r 19 p (by omega) (by omega)).symm
              have hX : XT (tx (up c 21 p a2) (up r 82 p a2)) := by
                rw [tx_tv]
                refine ⟨H.2.1.1.1.num ⟨hp, by rw [← tx_ct c r 18 _ (by omega) (by omega)]; exact hvv⟩ (by rw [k19]; exact hnb) hi (by rw [k19]; exact ha.2) (by rw [k19]; exact ha.1), fun s hs => (H.2.1.1.2 s hs).num⟩
              obtain ⟨c2, r2, w, w', e1, e2, q⟩ := S_unt hN (c1 := up c 21 p a2) (r1 := up r 82 p a2) H (fun a k z => up_ne (by omega)) (fun a k z y => up_ne (by omega)) (fun k z => up_ne (by omega)) (H.1.cong (up_ne (by omega)) (fun k => up_ne (by omega)) (up_ne (by omega)) (fun k => up_ne (by omega))) hX
              refine Two.vL e1 ?_
              refine Two.vR e2 ?_
              exact Two.ret rfl (q _)
            have e100 : ∀ A : Option Rs, A = (if w32 (if (c 19 p = 13 → 1 ≤ a2 ∧ a2 ≤ 9) ∧ (c 19 p = 8 ∨ c 19 p = 9 → 0 ≤ a2) then 1 else 0) = 0 then some (c, -2) else if 0 ≤ (p : Int) ∧ (p : Int) < ((192 : Nat) : Int) then bd (up c 21 p a2) fun s13 => bV (d_x6_untell N 26 s13 ) fun s14 => some (s14, 1) else none) → (c 19 p = 8 ∨ c 19 p = 9 → 0 ≤ a2) → Two A (d_x8_twist_100 N r a2 (p : Int)) (QG c r) := by
              intro A hA h89
              rw [hA]
              unfold d_x8_twist_100
              refine Two.iR hg ?_
              rw [w32i (x := (p : Int)) (by omega) (by omega), Int.toNat_natCast, kd.1, w32i (x := c 19 p) (by omega) (by omega)]
              by_cases h13 : c 19 p = 13
              · refine Two.iR h13 ?_
                by_cases hv : 1 ≤ a2 ∧ a2 ≤ 9
                · refine Two.cR (int h2 (by unfold r32; omega) (by unfold r32; omega) hv) (Two.eR (by decide) ?_)
                  rw [if_pos (show (c 19 p = 13 → 1 ≤ a2 ∧ a2 ≤ 9) ∧ (c 19 p = 8 ∨ c 19 p = 9 → 0 ≤ a2) from ⟨fun _ => hv, h89⟩)]
                  refine Two.eL (by decide) ?_
                  exact e127 _ rfl ⟨fun _ => hv, h89⟩
                · refine Two.cR (inf h2 (by unfold r32; omega) (by unfold r32; omega) hv) (Two.iR (by decide) ?_)
                  rw [if_neg (show ¬ ((c 19 p = 13 → 1 ≤ a2 ∧ a2 ≤ 9) ∧ (c 19 p = 8 ∨ c 19 p = 9 → 0 ≤ a2)) from fun z => hv (z.1 h13))]
                  refine Two.iL (by decide) ?_
                  exact Two.ret rfl (QG.refl H _)
              · refine Two.eR h13 ?_
                rw [if_pos (show (c 19 p = 13 → 1 ≤ a2 ∧ a2 ≤ 9) ∧ (c 19 p = 8 ∨ c 19 p = 9 → 0 ≤ a2) from ⟨fun z => absurd z h13, h89⟩)]
                refine Two.eL (by decide) ?_
                exact e127 _ rfl ⟨fun z => absurd z h13, h89⟩
            have e96 : ∀ A : Option Rs, A = (if w32 (if (c 19 p = 13 → 1 ≤ a2 ∧ a2 ≤ 9) ∧ (c 19 p = 8 ∨ c 19 p = 9 → 0 ≤ a2) then 1 else 0) = 0 then some (c, -2) else if 0 ≤ (p : Int) ∧ (p : Int) < ((192 : Nat) : Int) then bd (up c 21 p a2) fun s13 => bV (d_x6_untell N 26 s13 ) fun s14 => some (s14, 1) else none) → (c 19 p = 8 ∨ c 19 p = 9) → Two A (d_x8_twist_96 N r a2 (p : Int)) (QG c r) := by
              intro A hA h89
              unfold d_x8_twist_96
              by_cases hn : a2 < 0
              · refine Two.iR (by rw [w32r h2]; exact hn) ?_
                rw [hA, if_neg (show ¬ ((c 19 p = 13 → 1 ≤ a2 ∧ a2 ≤ 9) ∧ (c 19 p = 8 ∨ c 19 p = 9 → 0 ≤ a2)) from fun z => by have := z.2 h89; omega)]
                refine Two.iL (by decide) ?_
                exact Two.ret rfl (QG.refl H _)
              · refine Two.eR (by rw [w32r h2]; exact hn) ?_
                exact e100 A hA (fun _ => by omega)
            by_cases h8 : c 19 p = 8
            · refine Two.iR h8 ?_
              exact e96 _ rfl (Or.inl h8)
            · refine Two.eR h8 (Two.iR (by omega) ?_)
              by_cases h9 : c 19 p = 9
              · refine Two.iR h9 ?_
                exact e96 _ rfl (Or.inr h9)
              · refine Two.eR h9 ?_
                exact e100 _ rfl (fun z => by omega)
          · refine Two.cL (a.2 hnb) (Two.iL (by decide) ?_)
            refine Two.cR (b.2 hnb) (Two.iR (by decide) ?_)
            exact Two.ret rfl (QG.refl H _)
        · rw [if_neg hkp]
          refine Two.iL (by decide) (Two.iR (by decide) ?_)
          exact Two.ret rfl (QG.refl H _)
    · refine Two.cR (inf h2 (by unfold r32; omega) (by unfold r32; omega) hi) (Two.iR (by decide) ?_)
      by_cases hn : a2 < -9999
      · refine Two.iL (by rw [w32r h2]; exact hn) ?_
        exact Two.ret rfl (QG.refl H _)
      · refine Two.eL (by rw [w32r h2]; exact hn) (Two.iL (by rw [w32r h2]; omega) ?_)
        exact Two.ret rfl (QG.refl H _)
  · refine Two.cL (S7f h0 hs) (Two.iL (by decide) ?_)
    refine Two.cR (S8f h0 hs) (Two.iR (by decide) ?_)
    exact Two.ret rfl (QG.refl H _)
end
section
theorem sm_congr {f g : Nat → Int} : ∀ n : Nat, (∀ i, i < n → f i = g i) → sm f n = sm g n := by
  intro n
  induction n with
  | zero => intro _; rfl
  | succ n ih =>
    intro h
    show sm f n + f n = sm g n + g n
    rw [ih (fun i hi => h i (by omega)), h n (by omega)]
theorem sm_upd {f : Nat → Int} {a : Nat} : ∀ n : Nat, a < n → sm f n = sm (fun p => if p = a then 0 else f p) n + f a := by
  intro n
  induction n with
  | zero => intro h; omega
  | succ n ih =>
    intro h
    show sm f n + f n = sm _ n + (if n = a then 0 else f n) + f a
    by_cases e : a = n
    · subst e
      rw [if_pos rfl, sm_congr (f := fun p => if p = a then 0 else f p) (g := f) a (fun i hi => if_neg (by omega))]
      omega
    · rw [if_neg (by omega), ih (by omega)]
      omega
theorem sm_enum (n : Nat) (g : Nat → Nat) : ∀ (M : Nat) (f : Nat → Int), (∀ m, m < M → g m < n) → (∀ m m', m < M → m' < M → g m = g m' → m = m') → (∀ p, p < n → (∀ m, m < M → g m ≠ p) → f p = 0) → sm (fun m => f (g m)) M = sm f n := by
  intro M
  induction M with
  | zero =>
    intro f _ _ h
    show 0 = _
    have : ∀ k, k ≤ n → sm f k = 0 := by
      intro k
      induction k with
      | zero => intro _; rfl
      | succ k ih =>
        intro hk
        show sm f k + f k = 0
        rw [ih (by omega), h k (by omega) (fun m hm => by omega)]
        rfl
    exact (this n (Nat.le_refl _)).symm
  | succ M ih =>
    intro f h1 h2 h3
    show sm (fun m => f (g m)) M + f (g M) = _
    rw [sm_upd (f := f) (a := g M) n (h1 M (by omega)), ← ih (fun p => if p = g M then 0 else f p) (fun m hm => h1 m (by omega)) (fun m m' x y => h2 m m' (by omega) (by omega)) (fun p hp hm => ?_)]
    · rw [sm_congr (f := fun m => f (g m)) (g := fun m => if g m = g M then 0 else f (g m)) M (fun m hm => (if_neg (fun z => by have := h2 m M (by omega) (by omega) z; omega)).symm)]
    · by_cases e : p = g M
      · exact if_pos e
      · refine (if_neg e).trans (h3 p hp (fun m hm' => ?_))
        by_cases e2 : m = M
        · subst e2; exact fun z => e z.symm
        · exact hm m (by omega)
theorem sm_add (f : Nat → Int) (a : Nat) : ∀ b : Nat, sm f (a + b) = sm f a + sm (fun k => f (a + k)) b := by
  intro b
  induction b with
  | zero => show sm f a = sm f a + 0; omega
  | succ b ih =>
    show sm f (a + b) + f (a + b) = sm f a + (sm _ b + f (a + b))
    rw [ih]
    omega
theorem sm_cut (f : Nat → Int) (a : Nat) : ∀ b : Nat, (∀ k, k < b → f (a + k) = 0) → sm f (a + b) = sm f a := by
  intro b
  induction b with
  | zero => intro _; rfl
  | succ b ih =>
    intro h
    show sm f (a + b) + f (a + b) = sm f a
    rw [ih (fun k hk => h k (by omega)), h b (by omega), Int.add_zero]
/-- all places (or heads) of the class's table -/
theorem e_allP {t N : Nat} {T c : St} (hN : 200 ≤ N) (M : MT t T c) : d_x6_allPlaces N t c = some (c, sm (fun p => c (t + 1) p) 192) := by
  obtain ⟨n, hn⟩ : ∃ n : Nat, c t 11 = n := ⟨(c t 11).toNat, by have := M.1; omega⟩
  have h192 : n ≤ 192 := by have := M.2.1; omega
  have loop : ∀ (k m j : Nat) (x : Int), j + k = n → k < m → d_x6_allPlaces_4L N t m c x (j : Int) = some (c, x + sm (fun i => c (t + 1) (c (t + 11) (j + i)).toNat) k) := by
    intro k
    induction k with
    | zero =>
      intro m j x hj hm
      obtain ⟨m, rfl⟩ : ∃ m', m = m' + 1 := ⟨m - 1, by omega⟩
      show d_x6_allPlaces_4 N t (d_x6_allPlaces_4L N t m) c x j = _
      unfold d_x6_allPlaces_4
      rw [hn, w32i (x := (j : Int)) (by omega) (by omega), w32i (x := (n : Int)) (by omega) (by omega), if_neg (by omega)]
      show _ = some (c, x + 0)
      rw [Int.add_zero]
    | succ k ih =>
      intro m j x hj hm
      obtain ⟨m, rfl⟩ : ∃ m', m = m' + 1 := ⟨m - 1, by omega⟩
      have hr := M.2.2.1 j (by omega)
      show d_x6_allPlaces_4 N t (d_x6_allPlaces_4L N t m) c x j = _
      unfold d_x6_allPlaces_4
      rw [hn, w32i (x := (j : Int)) (by omega) (by omega), w32i (x := (n : Int)) (by omega) (by omega), if_pos (by omega), if_pos (by omega), Int.toNat_natCast, w32i (x := c (t + 11) j) (by omega) (by omega), if_pos (by omega), bd_eq, bd_eq]
      have := ih m (j + 1) (x + c (t + 1) (c (t + 11) j).toNat) (by omega) (by omega)
      have e : d_x6_allPlaces_4L N t m c (x + c (t + 1) (c (t + 11) j).toNat) ((j : Int) + 1) = _ := this
      rw [e]
      have s1 := sm_add (fun i => c (t + 1) (c (t + 11) (j + i)).toNat) 1 k
      have s2 : sm (fun i => c (t + 1) (c (t + 11) (j + (1 + i))).toNat) k = sm (fun i => c (t + 1) (c (t + 11) (j + 1 + i)).toNat) k := sm_congr k (fun i _ => by rw [show j + (1 + i) = j + 1 + i by omega])
      rw [Nat.add_comm k 1, s1, s2]
      show some (c, x + c (t + 1) (c (t + 11) j).toNat + sm _ k) = some (c, x + (0 + c (t + 1) (c (t + 11) (j + 0)).toNat + sm _ k))
      rw [Int.zero_add, Int.add_assoc]
      rfl
  unfold d_x6_allPlaces
  have l := loop n N 0 0 (by omega) (by omega)
  have e : d_x6_allPlaces_4L N t N c 0 0 = _ := l
  rw [e, Int.zero_add, sm_congr (f := fun i => c (t + 1) (c (t + 11) (0 + i)).toNat) (g := fun m => (fun p => c (t + 1) p) ((fun m => (c (t + 11) m).toNat) m)) n (fun i _ => by rw [Nat.zero_add])]
  rw [sm_enum 192 (fun m => (c (t + 11) m).toNat) n (fun p => c (t + 1) p) (fun m hm => by have := M.2.2.1 m (by omega); omega) (fun m m' a b z => by have h1 := M.2.2.1 m (by omega); have h2 := M.2.2.1 m' (by omega); exact M.2.2.2.1 m m' (by omega) (by omega) (by omega)) (fun p hp hm => ?_)]
  rcases M.2.2.2.2 p hp with z | ⟨_, _, m, y1, y2⟩
  · exact z.2.1
  · exact absurd (by rw [y2, Int.toNat_natCast]) (hm m (by omega))
theorem e_allH {t N : Nat} {T c : St} (hN : 200 ≤ N) (M : MT t T c) : d_x6_allHeads N t c = some (c, sm (fun p => c (t + 2) p) 192) := by
  obtain ⟨n, hn⟩ : ∃ n : Nat, c t 11 = n := ⟨(c t 11).toNat, by have := M.1; omega⟩
  have h192 : n ≤ 192 := by have := M.2.1; omega
  have loop : ∀ (k m j : Nat) (x : Int), j + k = n → k < m → d_x6_allHeads_4L N t m c x (j : Int) = some (c, x + sm (fun i => c (t + 2) (c (t + 11) (j + i)).toNat) k) := by
    intro k
    induction k with
    | zero =>
      intro m j x hj hm
      obtain ⟨m, rfl⟩ : ∃ m', m = m' + 1 := ⟨m - 1, by omega⟩
      show d_x6_allHeads_4 N t (d_x6_allHeads_4L N t m) c x j = _
      unfold d_x6_allHeads_4
      rw [hn, w32i (x := (j : Int)) (by omega) (by omega), w32i (x := (n : Int)) (by omega) (by omega), if_neg (by omega)]
      show _ = some (c, x + 0)
      rw [Int.add_zero]
    | succ k ih =>
      intro m j x hj hm
      obtain ⟨m, rfl⟩ : ∃ m', m = m' + 1 := ⟨m - 1, by omega⟩
      have hr := M.2.2.1 j (by omega)
      show d_x6_allHeads_4 N t (d_x6_allHeads_4L N t m) c x j = _
      unfold d_x6_allHeads_4
      rw [hn, w32i (x := (j : Int)) (by omega) (by omega), w32i (x := (n : Int)) (by omega) (by omega), if_pos (by omega), if_pos (by omega), Int.toNat_natCast, w32i (x := c (t + 11) j) (by omega) (by omega), if_pos (by omega), bd_eq, bd_eq]
      have := ih m (j + 1) (x + c (t + 2) (c (t + 11) j).toNat) (by omega) (by omega)
      have e : d_x6_allHeads_4L N t m c (x + c (t + 2) (c (t + 11) j).toNat) ((j : Int) + 1) = _ := this
      rw [e]
      have s1 := sm_add (fun i => c (t + 2) (c (t + 11) (j + i)).toNat) 1 k
      have s2 : sm (fun i => c (t + 2) (c (t + 11) (j + (1 + i))).toNat) k = sm (fun i => c (t + 2) (c (t + 11) (j + 1 + i)).toNat) k := sm_congr k (fun i _ => by rw [show j + (1 + i) = j + 1 + i by omega])
      rw [Nat.add_comm k 1, s1, s2]
      show some (c, x + c (t + 2) (c (t + 11) j).toNat + sm _ k) = some (c, x + (0 + c (t + 2) (c (t + 11) (j + 0)).toNat + sm _ k))
      rw [Int.zero_add, Int.add_assoc]
      rfl
  unfold d_x6_allHeads
  have l := loop n N 0 0 (by omega) (by omega)
  have e : d_x6_allHeads_4L N t N c 0 0 = _ := l
  rw [e, Int.zero_add, sm_congr (f := fun i => c (t + 2) (c (t + 11) (0 + i)).toNat) (g := fun m => (fun p => c (t + 2) p) ((fun m => (c (t + 11) m).toNat) m)) n (fun i _ => by rw [Nat.zero_add])]
  rw [sm_enum 192 (fun m => (c (t + 11) m).toNat) n (fun p => c (t + 2) p) (fun m hm => by have := M.2.2.1 m (by omega); omega) (fun m m' a b z => by have h1 := M.2.2.1 m (by omega); have h2 := M.2.2.1 m' (by omega); exact M.2.2.2.1 m m' (by omega) (by omega) (by omega)) (fun p hp hm => ?_)]
  rcases M.2.2.2.2 p hp with z | ⟨_, _, m, y1, y2⟩
  · exact z.2.2.1
  · exact absurd (by rw [y2, Int.toNat_natCast]) (hm m (by omega))
/-- the model counts its heads -/
theorem e_tH {N p : Nat} {r : St} (hN : 200 ≤ N) (hp : p < 192) (h : ∀ i : Nat, i < 64 → r 91 (64 * p + i) ≠ 2 ∧ -100 ≤ r 91 (64 * p + i) ∧ r 91 (64 * p + i) ≤ 100) : d_x8_toldHeads N r (p : Int) = some (r, cn (fun i => r 91 (64 * p + i)) 64) := by
  have loop : ∀ (k m j : Nat) (x : Int), j + k = 64 → k < m → d_x8_toldHeads_4L N m r (p : Int) x (j : Int) = some (r, x + (cn (fun i => r 91 (64 * p + i)) 64 - cn (fun i => r 91 (64 * p + i)) j)) := by
    intro k
    induction k with
    | zero =>
      intro m j x hj hm
      obtain ⟨m, rfl⟩ : ∃ m', m = m' + 1 := ⟨m - 1, by omega⟩
      show d_x8_toldHeads_4 N (d_x8_toldHeads_4L N m) r p x j = _
      unfold d_x8_toldHeads_4
      have : j = 64 := by omega
      subst this
      rw [if_neg (by decide), Int.sub_self, Int.add_zero]
    | succ k ih =>
      intro m j x hj hm
      obtain ⟨m, rfl⟩ : ∃ m', m = m' + 1 := ⟨m - 1, by omega⟩
      have hr := h j (by omega)
      have e64 : (64 * (p : Int) + (j : Int)).toNat = 64 * p + j := by omega
      show d_x8_toldHeads_4 N (d_x8_toldHeads_4L N m) r p x j = _
      unfold d_x8_toldHeads_4 d_x8_toldHeads_30
      rw [w32i (x := (j : Int)) (by omega) (by omega), if_pos (by omega), w32i (x := 64 * (p : Int) + (j : Int)) (by omega) (by omega), if_pos (by omega), e64, w32i (x := r 91 (64 * p + j)) (by omega) (by omega), bd_eq, bd_eq, bd_eq, bd_eq]
      have i0 := ih m (j + 1) (x + 0) (by omega) (by omega)
      have i1 := ih m (j + 1) (x + 1) (by omega) (by omega)
      have c1 : cn (fun i => r 91 (64 * p + i)) (j + 1) = cn (fun i => r 91 (64 * p + i)) j + (if r 91 (64 * p + j) = 0 ∨ r 91 (64 * p + j) = 2 then 0 else 1) := rfl
      by_cases e : r 91 (64 * p + j) = 0
      · rw [if_pos e]
        rw [if_pos (Or.inl e)] at c1
        have i0' : d_x8_toldHeads_4L N m r (p : Int) (x + 0) ((j : Int) + 1) = _ := i0
        rw [i0', c1]
        congr 2
        omega
      · rw [if_neg e]
        rw [if_neg (by omega)] at c1
        have i1' : d_x8_toldHeads_4L N m r (p : Int) (x + 1) ((j : Int) + 1) = _ := i1
        rw [i1', c1]
        congr 2
        omega
  unfold d_x8_toldHeads
  have l : d_x8_toldHeads_4L N N r (p : Int) 0 0 = _ := loop 64 N 0 0 (by omega) (by omega)
  rw [l]
  show some (r, 0 + (_ - 0)) = _
  rw [Int.sub_zero, Int.zero_add]
/-- the model's sums over all parts: f is what one part has -/
theorem e_tA {N : Nat} {r : St} (hN : 200 ≤ N) {w : Int} (f : Nat → Int) (hw : w = 0 ∨ w = 1) (h18 : ∀ s : Nat, s < 8 → 0 ≤ r 78 s ∧ r 78 s ≤ 24) (hf0 : w = 0 → ∀ p : Nat, p < 192 → r 86 p = f p) (hf1 : w = 1 → ∀ p : Nat, p < 192 → d_x8_toldHeads N r (p : Int) = some (r, f p)) (hz : ∀ s k : Nat, s < 8 → k < 24 → r 78 s ≤ k → f (24 * s + k) = 0) : d_x8_toldAll N r w = some (r, sm f 192) := by
  have inner : ∀ (K : St → Int → Int → Int → Option Rs) (s : Nat), s < 8 → ∀ (k m j : Nat) (x : Int), (j : Int) + k = r 78 s → k < m → d_x8_toldAll_13L N K m r w x (s : Int) (j : Int) = K r w (x + (sm f (24 * s + (j + k)) - sm f (24 * s + j))) ((s : Int) + 1) := by
    intro K s hs k
    have h := h18 s hs
    induction k with
    | zero =>
      intro m j x hj hm
      obtain ⟨m, rfl⟩ : ∃ m', m = m' + 1 := ⟨m - 1, by omega⟩
      show d_x8_toldAll_13 N K (d_x8_toldAll_13L N K m) r w x s j = _
      unfold d_x8_toldAll_13
      rw [w32i (x := (s : Int)) (by omega) (by omega), Int.toNat_natCast, if_pos (by omega), w32i (x := r 78 s) (by omega) (by omega), w32i (x := (j : Int)) (by omega) (by omega), if_neg (by omega), bd_eq, Nat.add_zero, Int.sub_self, Int.add_zero]
    | succ k ih =>
      intro m j x hj hm
      obtain ⟨m, rfl⟩ : ∃ m', m = m' + 1 := ⟨m - 1, by omega⟩
      have e24 : (24 * (s : Int) + (j : Int)) = ((24 * s + j : Nat) : Int) := by omega
      have i := ih m (j + 1) (x + f (24 * s + j)) (by omega) (by omega)
      have i' : d_x8_toldAll_13L N K m r w (x + f (24 * s + j)) (s : Int) ((j : Int) + 1) = _ := i
      have hfin : x + f (24 * s + j) + (sm f (24 * s + (j + 1 + k)) - sm f (24 * s + (j + 1))) = x + (sm f (24 * s + (j + (k + 1))) - sm f (24 * s + j)) := by
        have : sm f (24 * s + (j + 1)) = sm f (24 * s + j) + f (24 * s + j) := rfl
        rw [this, show j + 1 + k = j + (k + 1) by omega]
        omega
      show d_x8_toldAll_13 N K (d_x8_toldAll_13L N K m) r w x s j = _
      unfold d_x8_toldAll_13 d_x8_toldAll_55
      rw [w32i (x := (s : Int)) (by omega) (by omega), Int.toNat_natCast, if_pos (by omega), w32i (x := r 78 s) (by omega) (by omega), w32i (x := (j : Int)) (by omega) (by omega), if_pos (by omega), e24]
      rcases hw with e | e
      · have g := hf0 e (24 * s + j) (by omega)
        subst e
        rw [w32_0, if_pos rfl, w32i (x := ((24 * s + j : Nat) : Int)) (by omega) (by omega), if_pos (by omega), Int.toNat_natCast, g, bd_eq, bd_eq, i', hfin]
      · have g := hf1 e (24 * s + j) (by omega)
        subst e
        rw [w32_1, if_neg (by decide), g, bI_some, bd_eq, bd_eq, i', hfin]
  have outer : ∀ (k m s : Nat) (x : Int), s + k = 8 → k < m → d_x8_toldAll_4L N m r w x (s : Int) = some (r, x + (sm f 192 - sm f (24 * s))) := by
    intro k
    induction k with
    | zero =>
      intro m s x hs hm
      obtain ⟨m, rfl⟩ : ∃ m', m = m' + 1 := ⟨m - 1, by omega⟩
      have : s = 8 := by omega
      subst this
      show d_x8_toldAll_4 N (d_x8_toldAll_4L N m) r w x _ = _
      unfold d_x8_toldAll_4
      rw [if_neg (by decide)]
      show _ = some (r, x + (sm f 192 - sm f 192))
      rw [Int.sub_self, Int.add_zero]
    | succ k ih =>
      intro m s x hs hm
      obtain ⟨m, rfl⟩ : ∃ m', m = m' + 1 := ⟨m - 1, by omega⟩
      have h := h18 s (by omega)
      show d_x8_toldAll_4 N (d_x8_toldAll_4L N m) r w x _ = _
      unfold d_x8_toldAll_4
      rw [if_pos (by rw [w32i (by omega) (by omega)]; omega)]
      have l : d_x8_toldAll_13L N (d_x8_toldAll_4L N m) N r w x (s : Int) 0 = _ := inner (d_x8_toldAll_4L N m) s (by omega) (r 78 s).toNat N 0 x (by omega) (by omega)
      rw [l]
      have i := ih m (s + 1) (x + (sm f (24 * s + (0 + (r 78 s).toNat)) - sm f (24 * s + 0))) (by omega) (by omega)
      have i' : d_x8_toldAll_4L N m r w (x + (sm f (24 * s + (0 + (r 78 s).toNat)) - sm f (24 * s + 0))) ((s : Int) + 1) = _ := i
      rw [i']
      have c1 : sm f (24 * s + (r 78 s).toNat + (24 - (r 78 s).toNat)) = sm f (24 * s + (r 78 s).toNat) := sm_cut f _ _ (fun k hk => by
        have := hz s ((r 78 s).toNat + k) (by omega) (by omega) (by omega)
        rw [← Nat.add_assoc] at this
        exact this)
      rw [show 24 * s + (r 78 s).toNat + (24 - (r 78 s).toNat) = 24 * (s + 1) by omega] at c1
      rw [c1, Nat.zero_add, Nat.add_zero]
      congr 2
      omega
  unfold d_x8_toldAll
  have l : d_x8_toldAll_4L N N r w 0 0 = _ := outer 8 N 0 0 (by omega) (by omega)
  rw [l]
  show some (r, 0 + (sm f 192 - 0)) = _
  rw [Int.sub_zero, Int.zero_add]
theorem RG.zero {c r : St} (H : RG c r) {s k : Nat} (hs : s < 8) (hk : k < 24) (h : c 18 s ≤ k) : c 27 (24 * s + k) = 0 ∧ c 28 (24 * s + k) = 0 := by
  rcases H.2.1.2.2.1.2.2.2.2 (24 * s + k) (by omega) with z | ⟨_, z, _⟩
  · exact ⟨z.2.1, z.2.2.1⟩
  · have hd : (24 * s + k) % 24 = k ∧ (24 * s + k) / 24 = s := sk hk
    have z2 := z.2
    rw [hd.1, hd.2, ← tx_ct c r 18 s (by omega) (by omega)] at z2
    omega
theorem RG.hd {c r : St} (H : RG c r) {p : Nat} (hp : p < 192) : (∀ i : Nat, i < 64 → r 91 (64 * p + i) ≠ 2 ∧ -100 ≤ r 91 (64 * p + i) ∧ r 91 (64 * p + i) ≤ 100) ∧ c 28 p = cn (fun i => r 91 (64 * p + i)) 64 := by
  have e : ∀ i : Nat, i < 64 → r 91 (64 * p + i) = c 33 (64 * p + i) := fun i hi => (H.2.1.2.1.2.1 p i hp hi).1
  refine ⟨fun i hi => ?_, ?_⟩
  · have z := H.2.1.2.1.2.1 p i hp hi
    have y := (H.2.1.2.2.2 p hp).2 i hi
    unfold TM at z
    rw [e i hi]
    have z2 := z.2.1
    refine ⟨y, ?_⟩
    show -100 ≤ c (26 + 7) (64 * p + i) ∧ c (26 + 7) (64 * p + i) ≤ 100
    omega
  · have z := H.2.1.2.1.2.2.2.2.1 p hp
    unfold HC at z
    refine Eq.trans z ?_
    exact cn_congr 64 (fun i hi => (e i hi).symm)
theorem tA0 {N : Nat} (hN : 200 ≤ N) {c r : St} (H : RG c r) : d_x8_toldAll N r 0 = some (r, sm (fun p => c 27 p) 192) := by
  have hp := H.p18
  refine e_tA hN (fun p => c 27 p) (Or.inl rfl) (fun s hs => by have := hp s hs; omega) (fun _ p hp => (H.2.1.2.1.1 p hp).1) (fun z => by omega) (fun s k hs hk h => (H.zero hs hk (by have := hp s hs; omega)).1)
theorem tA1 {N : Nat} (hN : 200 ≤ N) {c r : St} (H : RG c r) : d_x8_toldAll N r 1 = some (r, sm (fun p => c 28 p) 192) := by
  have hp := H.p18
  refine e_tA hN (fun p => c 28 p) (Or.inr rfl) (fun s hs => by have := hp s hs; omega) (fun z => by omega) (fun _ p hp => ?_) (fun s k hs hk h => (H.zero hs hk (by have := hp s hs; omega)).2)
  have h := H.hd hp
  rw [h.2]
  exact e_tH hN hp h.1
/-- forget() -/
theorem r_forget {N : Nat} (hN : 200 ≤ N) {c r : St} (H : RG c r) : Two (d_x7_forget N c) (d_x8_forget N r) (QG c r) := by
  unfold d_x7_forget d_x8_forget
  refine Two.cL (e_allP hN H.2.1.2.2.1) ?_
  refine Two.cL (e_allH hN H.2.1.2.2.1) ?_
  refine Two.cR (tA0 hN H) ?_
  refine Two.cR (tA1 hN H) ?_
  refine Two.bdL (Two.bdR ?_)
  obtain ⟨c2, r2, w, w', e1, e2, q⟩ := S_unt hN (c1 := c) (r1 := r) H (fun _ _ _ => rfl) (fun _ _ _ _ => rfl) (fun _ _ => rfl) H.1 H.2.1.1
  refine Two.vL e1 ?_
  refine Two.vR e2 ?_
  exact Two.ret rfl (q _)
end
