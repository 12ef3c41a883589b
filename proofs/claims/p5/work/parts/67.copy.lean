theorem fits_b {x : Int} (h1 : -128 ≤ x) (h2 : x ≤ 127) : fits .byte (vi x) = true := by
  show (decide ((-128 : Int32) ≤ Int32.ofInt x) && decide (Int32.ofInt x ≤ (127 : Int32))) = true
  rw [show (-128 : Int32) = Int32.ofInt (-128) from rfl, show (127 : Int32) = Int32.ofInt 127 from rfl, Bool.and_eq_true, decide_eq_true_iff, decide_eq_true_iff, i32_le, i32_le, w32i (x := x) (by omega) (by omega), w32i (x := -128) (by omega) (by omega), w32i (x := 127) (by omega) (by omega)]
  exact ⟨h1, h2⟩
theorem cp_at {s : St} {a0 a1 b n i : Nat} (h : i < n) : cp s a0 b a1 b n a1 (b + i) = s a0 (b + i) := by
  rw [cp_app, if_pos (by omega)]
  have e : b + (b + i - b) = b + i := by omega
  rw [e]
theorem cp_o {s : St} {a0 a1 b b' n k : Nat} (h : k < b ∨ b + n ≤ k) : cp s a0 b' a1 b n a1 k = s a1 k := by
  rw [cp_app, if_neg (by omega)]
theorem e_unsI {N p : Nat} {K : St → Int → Option Rs} (hp : p < 192) : ∀ (k m : Nat) (d : St) (j : Nat), j + k = 64 → k < m → d_x8_untells_46L N K m d (p : Int) (j : Int) = K (fz d 91 (64 * p + j) k 0) ((p + 1 : Nat) : Int) := by
  intro k
  induction k with
  | zero =>
    intro m d j hj hm
    obtain ⟨m, rfl⟩ : ∃ m', m = m' + 1 := ⟨m - 1, by omega⟩
    show d_x8_untells_46 N K (d_x8_untells_46L N K m) d p j = _
    unfold d_x8_untells_46
    rw [w32i (x := (j : Int)) (by omega) (by omega), if_neg (by omega), fz_0]
    rfl
  | succ k ih =>
    intro m d j hj hm
    obtain ⟨m, rfl⟩ : ∃ m', m = m' + 1 := ⟨m - 1, by omega⟩
    show d_x8_untells_46 N K (d_x8_untells_46L N K m) d p j = _
    unfold d_x8_untells_46
    rw [w32i (x := (j : Int)) (by omega) (by omega), if_pos (by omega), w32i (x := 64 * (p : Int) + j) (by omega) (by omega), if_pos (by omega), bd_eq, bd_eq, show (64 * (p : Int) + j).toNat = 64 * p + j by omega]
    have := ih m (up d 91 (64 * p + j) 0) (j + 1) (by omega) (by omega)
    rw [← Nat.add_assoc, fz_up] at this
    exact this
theorem e_unsL {N : Nat} (hN : 200 ≤ N) (r : St) : ∀ (k m : Nat) (d : St) (p : Nat), p + k = 192 → k < m → (∀ q, q < p → d 86 q = 0 ∧ d 87 q = 0 ∧ d 88 q = 0 ∧ d 89 q = 0 ∧ d 90 q = 0) → (∀ k, k < 64 * p → d 91 k = 0) → (∀ a k, ¬ (86 ≤ a ∧ a ≤ 91) → d a k = r a k) → One (d_x8_untells_2L N m d (p : Int)) (fun r' _ => MZ r' ∧ ∀ a k, ¬ (86 ≤ a ∧ a ≤ 91) → r' a k = r a k) := by
  intro k
  induction k with
  | zero =>
    intro m d p hp hm h1 h2 h3
    obtain ⟨m, rfl⟩ : ∃ m', m = m' + 1 := ⟨m - 1, by omega⟩
    show One (d_x8_untells_2 N (d_x8_untells_2L N m) d p) _
    unfold d_x8_untells_2
    (repeat (first | with_reducible refine One.bd ?_ | (with_reducible refine One.i ?_ ?_; · ((try simp (disch := omega) only [w32i, Int.toNat_natCast]) <;> omega)) | (with_reducible refine One.e ?_ ?_; · ((try simp (disch := omega) only [w32i, Int.toNat_natCast]) <;> omega))))
    exact One.ret ⟨⟨fun q hq => h1 q (by omega), fun k hk => h2 k (by omega)⟩, h3⟩
  | succ k ih =>
    intro m d p hp hm h1 h2 h3
    obtain ⟨m, rfl⟩ : ∃ m', m = m' + 1 := ⟨m - 1, by omega⟩
    show One (d_x8_untells_2 N (d_x8_untells_2L N m) d p) _
    unfold d_x8_untells_2
    (repeat (first | with_reducible refine One.bd ?_ | (with_reducible refine One.i ?_ ?_; · ((try simp (disch := omega) only [w32i, Int.toNat_natCast]) <;> omega)) | (with_reducible refine One.e ?_ ?_; · ((try simp (disch := omega) only [w32i, Int.toNat_natCast]) <;> omega))))
    rw [w32i (x := (p : Int)) (by omega) (by omega), Int.toNat_natCast, and01]
    show One (d_x8_untells_46L N (d_x8_untells_2L N m) N _ (p : Int) ((0 : Nat) : Int)) _
    rw [e_unsI (by omega) 64 N _ 0 (by omega) (by omega)]
    refine ih m _ (p + 1) (by omega) (by omega) (fun q hq => ?_) (fun k hk => ?_) (fun a k z => ?_)
    · rw [fz_app, if_neg (by omega), fz_app, if_neg (by omega), fz_app, if_neg (by omega), fz_app, if_neg (by omega), fz_app, if_neg (by omega)]
      by_cases e : q = p
      · subst e
        simp (disch := omega) only [up_ne, up_same, and_self]
      · simp (disch := omega) only [up_ne, up_nj]
        exact h1 q (by omega)
    · rw [fz_app]
      by_cases e : 64 * p ≤ k
      · rw [if_pos (by omega)]
      · rw [if_neg (by omega)]
        simp (disch := omega) only [up_ne]
        exact h2 k (by omega)
    · rw [fz_app, if_neg (by omega)]
      simp (disch := omega) only [up_ne]
      exact h3 a k z
theorem e_untells {N : Nat} (hN : 200 ≤ N) (r : St) : One (d_x8_untells N r) (fun r' _ => MZ r' ∧ ∀ a k, ¬ (86 ≤ a ∧ a ≤ 91) → r' a k = r a k) := e_unsL hN r 192 N r 0 (by omega) (by omega) (fun q hq => by omega) (fun k hk => by omega) (fun _ _ _ => rfl)
/-- table t2 of c has come to t -/
def CD (t t2 : Nat) (c d : St) (p : Nat) : Prop := d (t + 1) p = c (t2 + 1) p ∧ d (t + 2) p = c (t2 + 2) p ∧ d (t + 3) p = c (t2 + 3) p ∧ d (t + 4) p = 0 ∧ d (t + 5) p = c (t2 + 5) p ∧ d (t + 6) p = c (t2 + 6) p ∧ d (t + 10) p = c (t2 + 10) p ∧ (∀ i : Nat, i < 64 → d (t + 7) (64 * p + i) = c (t2 + 7) (64 * p + i)) ∧ (∀ i : Nat, (i : Int) < c (t2 + 1) p → d (t + 8) (64 * p + i) = c (t2 + 8) (64 * p + i) ∧ d (t + 9) (64 * p + i) = c (t2 + 9) (64 * p + i))
def CE (t t2 : Nat) (c d : St) : Prop := d t 11 = c t2 11 ∧ (∀ m : Nat, (m : Int) < c t2 11 → d (t + 11) m = c (t2 + 11) m) ∧ (∀ p, p < 192 → CD t t2 c d p) ∧ KB t d
def CI (t t2 : Nat) (c : St) (S : Nat → Prop) (j : Nat) (d : St) : Prop := (∀ a k, ¬ (t ≤ a ∧ a ≤ t + 11) → d a k = c a k) ∧ d t 11 = j ∧ (∀ m : Nat, m < j → d (t + 11) m = c (t2 + 11) m) ∧ (∀ p, p < 192 → (S p ∧ CD t t2 c d p) ∨ (¬ S p ∧ IN t d p)) ∧ KB t d
theorem e_takeP {t t2 N : Nat} {c d : St} {S : Nat → Prop} {j p : Nat} (ht : t + 11 < t2 ∨ t2 + 11 < t) (H : UT t2 c) (I : CI t t2 c S j d) (hp : p < 192) (hS : ¬ S p) (hj : j < 192) (hm : c (t2 + 10) p = 1) (hq : c (t2 + 11) j = p) : One (d_x6_takePart N t t2 d (p : Int)) (fun d' _ => CI t t2 c (fun q => S q ∨ q = p) (j + 1) d') := by
  obtain ⟨i1, i2, i3, i4, i5⟩ := I
  have hin : IN t d p := by
    rcases i4 p hp with z | z
    · exact absurd z.1 hS
    · exact z.2
  obtain ⟨n, hn⟩ : ∃ n : Nat, c (t2 + 1) p = n := ⟨(c (t2 + 1) p).toNat, by have := H.2.1 p hp; omega⟩
  have hn64 : n ≤ 64 := by have := H.2.1 p hp; omega
  have g1 : d (t2 + 1) p = n := by rw [i1 _ _ (by omega)]; exact hn
  unfold d_x6_takePart
  refine One.i (by ((try simp (disch := omega) only [w32i, Int.toNat_natCast]) <;> omega)) (One.bd (One.bd ?_))
  rw [w32i (x := (p : Int)) (by omega) (by omega), Int.toNat_natCast, g1]
  have hmeet : d_x6_meet N t d (p : Int) = some (up (up (up d (t + 10) p 1) (t + 11) j p) t 11 ((j : Int) + 1), 0) := by
    unfold d_x6_meet
    have h10 : d (t + 10) p = 0 := hin.2.2.2.2.2.2.1
    have h11 : up d (t + 10) p 1 t 11 = j := by rw [up_ne (by omega)]; exact i2
    rw [w32i (x := (p : Int)) (by omega) (by omega), Int.toNat_natCast, if_pos (by omega), h10, w32_0, if_pos rfl, i2, w32i (x := (j : Int)) (by omega) (by omega), w32i (x := ((192 : Nat) : Int)) (by omega) (by omega), if_pos (by omega), if_pos (by omega), bd_eq, and11, h11, w32i (x := (j : Int)) (by omega) (by omega), if_pos (by omega), bd_eq, bd_eq, Int.toNat_natCast, up_ne (a := t + 11) (b := t) (by omega), h11]
  refine One.v hmeet ?_
  have e64 : ((p : Int) * 64).toNat = 64 * p := by omega
  have l2 : ∀ a k, ¬ (t ≤ a ∧ a ≤ t + 11) → up (up (up d (t + 10) p 1) (t + 11) j p) t 11 ((j : Int) + 1) a k = c a k := by
    intro a k z
    rw [up_ne (by omega), up_ne (by omega), up_ne (by omega)]
    exact i1 a k z
  have hmk : ∀ i : Nat, i < n → -128 ≤ c (t2 + 7) (64 * p + i) ∧ c (t2 + 7) (64 * p + i) ≤ 127 := fun i hi => H.2.2.2.2 p i hp (by omega)
  have hkp : ∀ i : Nat, i < n → -128 ≤ c (t2 + 9) (64 * p + i) ∧ c (t2 + 9) (64 * p + i) ≤ 127 := fun i hi => H.2.2.2.1 (64 * p + i) (by omega)
  refine One.i (by omega) (One.bd (One.i (by omega) (One.i (by omega) (One.bd (One.i (by omega) (One.i (by omega) (One.bd (One.i (by omega) (One.i (by omega) (One.bd (One.i (by omega) (One.i (by omega) (One.bd ?_)))))))))))))
  rw [w32i (x := (n : Int)) (by omega) (by omega), w32i (x := (p : Int) * 64) (by omega) (by omega), e64, Int.toNat_natCast]
  refine One.i ?_ (One.bd (One.i (by omega) (One.bd (One.i ?_ (One.bd ?_)))))
  · refine ⟨by omega, by omega, by omega, by omega, by omega, List.all_eq_true.mpr (fun i hi => ?_)⟩
    have hi := List.mem_range.mp hi
    simp (disch := omega) only [up_ne]
    rw [i1 _ _ (by omega)]
    exact fits_b (hmk i hi).1 (hmk i hi).2
  · refine ⟨by omega, by omega, by omega, by omega, by omega, List.all_eq_true.mpr (fun i hi => ?_)⟩
    have hi := List.mem_range.mp hi
    simp (disch := omega) only [up_ne, cp_ne]
    rw [i1 _ _ (by omega)]
    exact fits_b (hkp i hi).1 (hkp i hi).2
  have em : ∀ (a k : Nat), t2 ≤ a → a ≤ t2 + 11 → d a k = c a k := fun a k h1 h2 => i1 a k (by omega)
  refine One.ret ⟨fun a k z => ?_, ?_, fun m hm => ?_, fun q hq' => ?_, fun k hk => ?_⟩
  · simp (disch := omega) only [up_ne, cp_ne]
    exact i1 a k z
  · simp (disch := omega) only [up_ne, cp_ne, up_same]
    omega
  · simp (disch := omega) only [up_ne, cp_ne]
    by_cases e : m = j
    · subst e
      rw [up_same, hq]
    · rw [up_nj e, up_ne (by omega)]
      exact i3 m (by omega)
  · by_cases e : q = p
    · subst e
      left
      refine ⟨Or.inr rfl, ?_⟩
      unfold CD
      rw [hn, hm]
      simp (disch := omega) only [up_ne, cp_ne, up_same, true_and, em]
      refine ⟨hin.2.2.2.1, fun i hi => ?_, fun i hi => ?_⟩
      · by_cases hin' : i < n
        · rw [cp_at hin']
          simp (disch := omega) only [up_ne]
          rw [em _ _ (by omega) (by omega)]
        · rw [cp_o (by omega)]
          simp (disch := omega) only [up_ne]
          rw [hin.2.2.2.2.2.2.2 i hi]
          have := H.2.2.1 q i hp hi
          by_cases e : c (t2 + 7) (64 * q + i) = 0
          · exact e.symm
          · have := this e
            omega
      · have hi' : i < n := by omega
        constructor
        · rw [cp_at hi']
          simp (disch := omega) only [up_ne, cp_ne]
          rw [em _ _ (by omega) (by omega)]
        · rw [cp_at hi']
          simp (disch := omega) only [up_ne, cp_ne]
          rw [em _ _ (by omega) (by omega)]
    · have nm : ∀ (b i : Nat), i < 64 → ¬ (b = b ∧ 64 * p ≤ 64 * q + i ∧ 64 * q + i < 64 * p + n) := by intro b i hi; omega
      rcases i4 q hq' with ⟨z1, z2⟩ | ⟨z1, z2⟩
      · left
        refine ⟨Or.inl z1, ?_⟩
        unfold CD at *
        simp (disch := omega) only [up_ne, cp_ne, up_nj]
        refine ⟨z2.1, z2.2.1, z2.2.2.1, z2.2.2.2.1, z2.2.2.2.2.1, z2.2.2.2.2.2.1, z2.2.2.2.2.2.2.1, fun i hi => ?_, fun i hi => ?_⟩
        · rw [cp_o (by omega)]
          simp (disch := omega) only [up_ne]
          exact z2.2.2.2.2.2.2.2.1 i hi
        · have := H.2.1 q hq'
          have z3 := z2.2.2.2.2.2.2.2.2 i hi
          constructor
          · rw [cp_o (by omega)]
            simp (disch := omega) only [up_ne, cp_ne]
            exact z3.1
          · rw [cp_o (by omega)]
            simp (disch := omega) only [up_ne, cp_ne]
            exact z3.2
      · right
        refine ⟨fun z => z.elim z1 e, ?_⟩
        unfold IN at *
        simp (disch := omega) only [up_ne, cp_ne, up_nj]
        refine ⟨z2.1, z2.2.1, z2.2.2.1, z2.2.2.2.1, z2.2.2.2.2.1, z2.2.2.2.2.2.1, z2.2.2.2.2.2.2.1, fun i hi => ?_⟩
        rw [cp_o (by omega)]
        simp (disch := omega) only [up_ne]
        exact z2.2.2.2.2.2.2.2 i hi
  · rw [cp_app]
    by_cases e : t + 9 = t + 9 ∧ 64 * p ≤ k ∧ k < 64 * p + n
    · rw [if_pos e]
      simp (disch := omega) only [up_ne, cp_ne]
      rw [em _ _ (by omega) (by omega)]
      exact H.2.2.2.1 _ (by omega)
    · rw [if_neg e]
      simp (disch := omega) only [up_ne, cp_ne]
      exact i5 k hk
theorem e_takeL {t t2 N : Nat} {c : St} (ht : t + 11 < t2 ∨ t2 + 11 < t) (H : UT t2 c) : ∀ (k m : Nat) (d : St) (j : Nat) (S : Nat → Prop), (j : Int) + k = c t2 11 → k < m → CI t t2 c S j d → (∀ p, S p ↔ ∃ i : Nat, i < j ∧ c (t2 + 11) i = p) → One (d_x6_takeAll_6L N t t2 m d (j : Int)) (fun d' _ => CE t t2 c d' ∧ ∀ a k, ¬ (t ≤ a ∧ a ≤ t + 11) → d' a k = c a k) := by
  intro k
  obtain ⟨h1, h9, h3, h4, h5⟩ := H.1
  induction k with
  | zero =>
    intro m d j S hj hm I hS
    obtain ⟨m, rfl⟩ : ∃ m', m = m' + 1 := ⟨m - 1, by omega⟩
    show One (d_x6_takeAll_6 N t t2 (d_x6_takeAll_6L N t t2 m) d j) _
    unfold d_x6_takeAll_6
    have e11 : d t2 11 = c t2 11 := I.1 _ _ (by omega)
    (repeat (first | with_reducible refine One.bd ?_ | (with_reducible refine One.i ?_ ?_; · ((try simp (disch := omega) only [w32i, Int.toNat_natCast, e11]) <;> omega)) | (with_reducible refine One.e ?_ ?_; · ((try simp (disch := omega) only [w32i, Int.toNat_natCast, e11]) <;> omega))))
    obtain ⟨i1, i2, i3, i4, i5⟩ := I
    refine One.ret ⟨⟨by omega, fun m hm => i3 m (by omega), fun p hp => ?_, i5⟩, i1⟩
    rcases i4 p hp with z | ⟨z1, z⟩
    · exact z.2
    · rcases h5 p hp with y | ⟨_, m, y1, y2⟩
      · unfold IN at z
        unfold CD
        rw [y.1, y.2.1, y.2.2.1, y.2.2.2.1, y.2.2.2.2.2.1, y.2.2.2.2.2.2]
        refine ⟨z.1, z.2.1, z.2.2.1, z.2.2.2.1, z.2.2.2.2.1, z.2.2.2.2.2.1, z.2.2.2.2.2.2.1, fun i hi => ?_, fun i hi => by omega⟩
        rw [z.2.2.2.2.2.2.2 i hi]
        have := H.2.2.1 p i hp hi
        by_cases e : c (t2 + 7) (64 * p + i) = 0
        · exact e.symm
        · have := this e
          omega
      · exact absurd ((hS p).mpr ⟨m, by omega, y2⟩) z1
  | succ k ih =>
    intro m d j S hj hm I hS
    obtain ⟨m, rfl⟩ : ∃ m', m = m' + 1 := ⟨m - 1, by omega⟩
    show One (d_x6_takeAll_6 N t t2 (d_x6_takeAll_6L N t t2 m) d j) _
    unfold d_x6_takeAll_6
    have e11 : d t2 11 = c t2 11 := I.1 _ _ (by omega)
    have e12 : d (t2 + 11) j = c (t2 + 11) j := I.1 _ _ (by omega)
    have r3 := h3 j (by omega)
    obtain ⟨p, hp⟩ : ∃ p : Nat, c (t2 + 11) j = p := ⟨(c (t2 + 11) j).toNat, by omega⟩
    (repeat (first | with_reducible refine One.bd ?_ | (with_reducible refine One.i ?_ ?_; · ((try simp (disch := omega) only [w32i, Int.toNat_natCast, e11]) <;> omega)) | (with_reducible refine One.e ?_ ?_; · ((try simp (disch := omega) only [w32i, Int.toNat_natCast, e11]) <;> omega))))
    rw [w32i (x := (j : Int)) (by omega) (by omega), Int.toNat_natCast, e12, hp]
    rw [hp, Int.toNat_natCast] at r3
    refine One.callV (e_takeP ht H I (by omega) (fun z => ?_) (by omega) r3.2.2 hp) (fun d' v q => ?_)
    · obtain ⟨i, y1, y2⟩ := (hS p).mp z
      have := h4 i j (by omega) (by omega) (by omega)
      omega
    · refine One.bd ?_
      refine ih m d' (j + 1) _ (by omega) (by omega) q (fun q' => ?_)
      constructor
      · rintro (z | z)
        · obtain ⟨i, y1, y2⟩ := (hS q').mp z
          exact ⟨i, by omega, y2⟩
        · exact ⟨j, by omega, by rw [z]; exact hp⟩
      · rintro ⟨i, y1, y2⟩
        by_cases e : i = j
        · right
          subst e
          omega
        · exact Or.inl ((hS q').mpr ⟨i, by omega, y2⟩)
theorem e_take {t t2 N : Nat} {c : St} (hN : 200 ≤ N) (ht : t + 11 < t2 ∨ t2 + 11 < t) (H : UT t c) (H2 : UT t2 c) : One (d_x6_takeAll N t t2 c) (fun d' _ => CE t t2 c d' ∧ ∀ a k, ¬ (t ≤ a ∧ a ≤ t + 11) → d' a k = c a k) := by
  unfold d_x6_takeAll
  refine One.callV (e_untell hN H) (fun d v q => ?_)
  obtain ⟨q1, q2, q3, q4⟩ := q
  have hd : UT t2 d := H2.cong (fun a k _ _ => q2 a k (by omega))
  have := H2.1.1
  have := H2.1.2.1
  have e11 : d t2 11 = c t2 11 := q2 _ _ (by omega)
  refine One.mono (e_takeL (c := d) ht hd (c t2 11).toNat N d 0 (fun _ => False) (by omega) (by omega) ⟨fun _ _ _ => rfl, q1.1, fun m hm => by omega, fun p hp => Or.inr ⟨fun h => h, q1.2 p hp⟩, fun k hk => by rw [q4]; exact H.2.2.2.1 k hk⟩ (fun p => ⟨fun h => h.elim, fun ⟨i, h, _⟩ => by omega⟩)) (fun d' v q => ?_)
  refine ⟨?_, fun a k z => (q.2 a k z).trans (q2 a k z)⟩
  have e : ∀ a k, t2 ≤ a → a ≤ t2 + 11 → d a k = c a k := fun a k _ _ => q2 a k (by omega)
  have q := q.1
  unfold CE CD at *
  simp (disch := omega) only [e] at q
  exact q
/-- what holds of a table holds of its copy -/
theorem CE.ts {t t2 : Nat} {T c d r r' : St} (C : CE t t2 c d) (S : TS t2 T c r) (M : MT t2 T c) (er : ∀ a k, 86 ≤ a → a ≤ 93 → a ≠ 88 → ((a = 91 ∨ a = 92 ∨ a = 93) → k < 12288) → (a < 91 → k < 192) → r' a k = r a k) (e8 : ∀ p, p < 192 → r' 88 p = 0) (h4 : ∀ p, p < 192 → c (t2 + 4) p = 0) : TS t T d r' ∧ MT t T d := by
  obtain ⟨c1, c2, c3, c4⟩ := C
  refine ⟨⟨fun p hp => ?_, fun p i hp hi => ?_, fun p hp => ?_, fun p i hp hi => ?_, fun p hp => ?_, c4⟩, ⟨by rw [c1]; exact M.1, by rw [c1]; exact M.2.1, fun m hm => ?_, fun m m' hm hm' he => ?_, fun p hp => ?_⟩⟩
  · have z := c3 p hp
    have y := S.1 p hp
    unfold TP at *
    rw [z.1, z.2.2.1, z.2.2.2.1, er 86 p (by omega) (by omega) (by omega) (by omega) (by omega), er 87 p (by omega) (by omega) (by omega) (by omega) (by omega), e8 p hp]
    exact ⟨y.1, y.2.1, y.2.2.1, y.2.2.2.1, rfl, Or.inl rfl⟩
  · have z := c3 p hp
    have y := S.2.1 p i hp hi
    unfold TM at *
    rw [z.1, z.2.2.2.2.2.2.2.1 i hi, er 91 _ (by omega) (by omega) (by omega) (by omega) (by omega), er 92 _ (by omega) (by omega) (by omega) (by omega) (by omega)]
    refine ⟨y.1, y.2.1, y.2.2.1, fun h => ?_⟩
    rw [(z.2.2.2.2.2.2.2.2 i (y.2.2.1 (by omega))).1]
    exact y.2.2.2 h
  · have hp1 := hp.1
    have z := c3 p hp1
    have y := S.2.2.1 p hp
    have w := S.1 p hp1
    unfold TP at w
    unfold TN NX at *
    rw [z.1, z.2.2.2.1, z.2.2.2.2.1, z.2.2.2.2.2.1, er 89 p (by omega) (by omega) (by omega) (by omega) (by omega), er 90 p (by omega) (by omega) (by omega) (by omega) (by omega)]
    refine ⟨fun _ h => ⟨(y.1 (h4 p hp1) h).1, fun i hi => ?_⟩, y.2⟩
    rw [(z.2.2.2.2.2.2.2.2 i (by omega)).2]
    exact (y.1 (h4 p hp1) h).2 i hi
  · have hp1 := hp.1
    have z := c3 p hp1
    rw [z.1] at hi
    have y := S.2.2.2.1 p i hp hi
    have w := S.1 p hp1
    unfold TP at w
    have k9 := (z.2.2.2.2.2.2.2.2 i hi).2
    have td : ∀ (q : Nat) (x : Int), Td t2 T c q x → Td t T d q x := by
      intro q x h
      obtain ⟨q', a1, a2, a3, a4⟩ := h
      exact ⟨q', a1, a2, a3, by rw [(c3 q' a2).1]; exact a4⟩
    obtain ⟨y1, y2⟩ := y
    unfold KP SO at *
    rw [k9, er 93 _ (by omega) (by omega) (by omega) (by omega) (by omega)]
    obtain ⟨a1, a2, a3, a4, a5, a6, a7, a8⟩ := y2
    exact ⟨y1, fun z => td _ _ (a1 z), fun z => td _ _ (a2 z), fun z => td _ _ (a3 z), fun z y => td _ _ (a4 z y), fun z => td _ _ (a5 z), fun z => td _ _ (a6 z), fun z => ⟨fun y => td _ _ ((a7 z).1 y), fun y => td _ _ ((a7 z).2 y)⟩, a8⟩
  · have z := c3 p hp
    have y := S.2.2.2.2.1 p hp
    unfold HC at *
    rw [z.2.1, y]
    exact cn_congr 64 (fun i hi => (z.2.2.2.2.2.2.2.1 i hi).symm)
  · rw [c1] at hm
    have y := M.2.2.1 m hm
    rw [c2 m hm, (c3 _ (by omega)).2.2.2.2.2.2.1]
    exact y
  · rw [c1] at hm hm'
    rw [c2 m hm, c2 m' hm'] at he
    exact M.2.2.2.1 m m' hm hm' he
  · have z := c3 p hp
    rw [c1, z.1, z.2.1, z.2.2.1, z.2.2.2.1, z.2.2.2.2.1, z.2.2.2.2.2.1, z.2.2.2.2.2.2.1]
    rcases M.2.2.2.2 p hp with y | ⟨y1, y2, m, y3, y4⟩
    · exact Or.inl ⟨y.1, y.2.1, y.2.2.1, y.2.2.2.1, rfl, y.2.2.2.2.2⟩
    · exact Or.inr ⟨y1, y2, m, y3, by rw [c2 m y3]; exact y4⟩
