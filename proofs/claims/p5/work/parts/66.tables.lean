def One (A : Option Rs) (Q : St → Int → Prop) : Prop := ∃ s v, A = some (s, v) ∧ Q s v
theorem One.ret {s : St} {v : Int} {Q : St → Int → Prop} (q : Q s v) : One (some (s, v)) Q := ⟨s, v, rfl, q⟩
theorem One.i {p : Prop} [Decidable p] {A A' : Option Rs} {Q : St → Int → Prop} (h : p) (k : One A Q) : One (if p then A else A') Q := by rw [if_pos h]; exact k
theorem One.e {p : Prop} [Decidable p] {A A' : Option Rs} {Q : St → Int → Prop} (h : ¬ p) (k : One A' Q) : One (if p then A else A') Q := by rw [if_neg h]; exact k
theorem One.bd {α : Type} {x : α} {f : α → Option Rs} {Q : St → Int → Prop} (k : One (f x) Q) : One (bd x f) Q := k
theorem One.c {s : St} {v : Int} {K : St → Int → Option Rs} {A : Option Rs} {Q : St → Int → Prop} (h : A = some (s, v)) (k : One (K s v) Q) : One (bI A K) Q := by rw [h]; exact k
theorem One.v {s : St} {v : Int} {K : St → Option Rs} {A : Option Rs} {Q : St → Int → Prop} (h : A = some (s, v)) (k : One (K s) Q) : One (bV A K) Q := by rw [h]; exact k
theorem One.call {K : St → Int → Option Rs} {A : Option Rs} {Q Q' : St → Int → Prop} (h : One A Q') (k : ∀ s v, Q' s v → One (K s v) Q) : One (bI A K) Q := by
  obtain ⟨s, v, h1, h2⟩ := h
  rw [h1]
  exact k s v h2
theorem One.callV {K : St → Option Rs} {A : Option Rs} {Q Q' : St → Int → Prop} (h : One A Q') (k : ∀ s v, Q' s v → One (K s) Q) : One (bV A K) Q := by
  obtain ⟨s, v, h1, h2⟩ := h
  rw [h1]
  exact k s v h2
theorem One.mono {A : Option Rs} {Q Q' : St → Int → Prop} (h : One A Q) (k : ∀ s v, Q s v → Q' s v) : One A Q' := by
  obtain ⟨s, v, h1, h2⟩ := h
  exact ⟨s, v, h1, k s v h2⟩
theorem Two.oL {K : St → Int → Option Rs} {A B : Option Rs} {Q : St → St → Int → Prop} {Q' : St → Int → Prop} (h : One A Q') (k : ∀ s v, Q' s v → Two (K s v) B Q) : Two (bI A K) B Q := by
  obtain ⟨s, v, h1, h2⟩ := h
  rw [h1]
  exact k s v h2
theorem Two.oR {K : St → Int → Option Rs} {A B : Option Rs} {Q : St → St → Int → Prop} {Q' : St → Int → Prop} (h : One A Q') (k : ∀ s v, Q' s v → Two B (K s v) Q) : Two B (bI A K) Q := by
  obtain ⟨s, v, h1, h2⟩ := h
  rw [h1]
  exact k s v h2
theorem Two.oLV {K : St → Option Rs} {A B : Option Rs} {Q : St → St → Int → Prop} {Q' : St → Int → Prop} (h : One A Q') (k : ∀ s v, Q' s v → Two (K s) B Q) : Two (bV A K) B Q := by
  obtain ⟨s, v, h1, h2⟩ := h
  rw [h1]
  exact k s v h2
theorem Two.oRV {K : St → Option Rs} {A B : Option Rs} {Q : St → St → Int → Prop} {Q' : St → Int → Prop} (h : One A Q') (k : ∀ s v, Q' s v → Two B (K s) Q) : Two B (bV A K) Q := by
  obtain ⟨s, v, h1, h2⟩ := h
  rw [h1]
  exact k s v h2
/-- a table that may be emptied or copied -/
def MU (t : Nat) (c : St) : Prop := 0 ≤ c t 11 ∧ c t 11 ≤ 192
  ∧ (∀ m : Nat, (m : Int) < c t 11 → 0 ≤ c (t + 11) m ∧ c (t + 11) m < 192 ∧ c (t + 10) (c (t + 11) m).toNat = 1)
  ∧ (∀ m m' : Nat, (m : Int) < c t 11 → (m' : Int) < c t 11 → c (t + 11) m = c (t + 11) m' → m = m')
  ∧ (∀ p : Nat, p < 192 → (c (t + 10) p = 0 ∧ c (t + 1) p = 0 ∧ c (t + 2) p = 0 ∧ c (t + 3) p = 1 ∧ c (t + 4) p = 0 ∧ c (t + 5) p = 0 ∧ c (t + 6) p = 0) ∨ (c (t + 10) p = 1 ∧ ∃ m : Nat, (m : Int) < c t 11 ∧ c (t + 11) m = p))
def UT (t : Nat) (c : St) : Prop := MU t c ∧ (∀ p, p < 192 → 0 ≤ c (t + 1) p ∧ c (t + 1) p ≤ 64) ∧ (∀ p i : Nat, p < 192 → i < 64 → (c (t + 7) (64 * p + i) ≠ 0 → (i : Int) < c (t + 1) p)) ∧ KB t c ∧ (∀ p i : Nat, p < 192 → i < 64 → -128 ≤ c (t + 7) (64 * p + i) ∧ c (t + 7) (64 * p + i) ≤ 127)
/-- part p of a table is empty -/
def IN (t : Nat) (d : St) (p : Nat) : Prop := d (t + 1) p = 0 ∧ d (t + 2) p = 0 ∧ d (t + 3) p = 1 ∧ d (t + 4) p = 0 ∧ d (t + 5) p = 0 ∧ d (t + 6) p = 0 ∧ d (t + 10) p = 0 ∧ ∀ i : Nat, i < 64 → d (t + 7) (64 * p + i) = 0
def SM (t : Nat) (c d : St) (p : Nat) : Prop := (∀ j, 1 ≤ j → j ≤ 6 → d (t + j) p = c (t + j) p) ∧ d (t + 10) p = c (t + 10) p ∧ ∀ i : Nat, i < 64 → d (t + 7) (64 * p + i) = c (t + 7) (64 * p + i)
def US (t : Nat) (c : St) (S : Nat → Prop) (d : St) : Prop := (∀ a k, ¬ (t + 1 ≤ a ∧ a ≤ t + 7) → a ≠ t + 10 → d a k = c a k) ∧ ∀ p, p < 192 → (S p ∧ IN t d p) ∨ (¬ S p ∧ SM t c d p)
theorem MT.mu {t : Nat} {T c : St} (H : MT t T c) : MU t c := ⟨H.1, H.2.1, H.2.2.1, H.2.2.2.1, fun p hp => by
  rcases H.2.2.2.2 p hp with z | z
  · exact Or.inl z
  · exact Or.inr ⟨z.1, z.2.2⟩⟩
theorem UT.of {t : Nat} {T c r : St} (H : MT t T c) (S : TS t T c r) : UT t c := ⟨H.mu, fun p hp => by have h := S.1 p hp; unfold TP at h; omega, fun p i hp hi => (S.2.1 p i hp hi).2.2.1, S.2.2.2.2.2, fun p i hp hi => by have h := (S.2.1 p i hp hi).2.1; omega⟩
theorem UT.cong {t : Nat} {c c' : St} (H : UT t c) (e : ∀ a k, t ≤ a → a ≤ t + 11 → c' a k = c a k) : UT t c' := by
  have e0 := fun k => e t k (by omega) (by omega)
  have e1 := fun k => e (t + 1) k (by omega) (by omega)
  have e2 := fun k => e (t + 2) k (by omega) (by omega)
  have e3 := fun k => e (t + 3) k (by omega) (by omega)
  have e4 := fun k => e (t + 4) k (by omega) (by omega)
  have e5 := fun k => e (t + 5) k (by omega) (by omega)
  have e6 := fun k => e (t + 6) k (by omega) (by omega)
  have e7 := fun k => e (t + 7) k (by omega) (by omega)
  have e9 := fun k => e (t + 9) k (by omega) (by omega)
  have e10 := fun k => e (t + 10) k (by omega) (by omega)
  have e11 := fun k => e (t + 11) k (by omega) (by omega)
  unfold UT MU KB at *
  simp only [e0, e1, e2, e3, e4, e5, e6, e7, e9, e10, e11]
  exact H
theorem e_untP {t N : Nat} {c : St} {S : Nat → Prop} {p : Nat} (hp : p < 192) : ∀ (k m : Nat) (d : St) (j n : Nat), d (t + 1) p = n → n ≤ 64 → j + k = n → k < m → (∀ a k, ¬ (t + 1 ≤ a ∧ a ≤ t + 7) → a ≠ t + 10 → d a k = c a k) → (∀ q, q < 192 → q ≠ p → (S q ∧ IN t d q) ∨ (¬ S q ∧ SM t c d q)) → (∀ i : Nat, i < 64 → (i < j ∨ n ≤ i) → d (t + 7) (64 * p + i) = 0) →
    One (d_x6_untellPart_7L N t m d (p : Int) ((p : Int) * 64) (j : Int)) (fun d' _ => US t c (fun q => S q ∨ q = p) d') := by
  intro k
  induction k with
  | zero =>
    intro m d j n h1 h2 h3 h4 h5 h6 h7
    obtain ⟨m, rfl⟩ : ∃ m', m = m' + 1 := ⟨m - 1, by omega⟩
    show One (d_x6_untellPart_7 N t (d_x6_untellPart_7L N t m) d p _ j) _
    unfold d_x6_untellPart_7
    (repeat (first | with_reducible refine One.bd ?_ | (with_reducible refine One.i ?_ ?_; · ((try simp (disch := omega) only [w32i, Int.toNat_natCast, h1]) <;> omega)) | (with_reducible refine One.e ?_ ?_; · ((try simp (disch := omega) only [w32i, Int.toNat_natCast, h1]) <;> omega))))
    rw [w32i (x := (p : Int)) (by omega) (by omega), Int.toNat_natCast, and01]
    refine One.ret ⟨fun a k z y => ?_, fun q hq => ?_⟩
    · simp (disch := omega) only [up_ne]
      exact h5 a k z y
    · by_cases e : q = p
      · subst e
        left
        refine ⟨Or.inr rfl, ?_⟩
        unfold IN
        simp (disch := omega) only [up_ne, up_same, true_and]
        intro i hi
        exact h7 i hi (by omega)
      · rcases h6 q hq e with ⟨z1, z2⟩ | ⟨z1, z2⟩
        · left
          refine ⟨Or.inl z1, ?_⟩
          unfold IN at *
          simp (disch := omega) only [up_ne, up_nj]
          exact z2
        · right
          refine ⟨fun z => z.elim z1 e, ?_⟩
          unfold SM at *
          refine ⟨fun j a b => ?_, ?_, fun i hi => ?_⟩
          · rw [up_nj e, up_nj e, up_nj e, up_nj e, up_nj e, up_nj e, up_nj e]
            exact z2.1 j a b
          · rw [up_nj e, up_ne (by omega), up_ne (by omega), up_ne (by omega), up_ne (by omega), up_ne (by omega), up_ne (by omega)]
            exact z2.2.1
          · simp (disch := omega) only [up_ne]
            exact z2.2.2 i hi
  | succ k ih =>
    intro m d j n h1 h2 h3 h4 h5 h6 h7
    obtain ⟨m, rfl⟩ : ∃ m', m = m' + 1 := ⟨m - 1, by omega⟩
    show One (d_x6_untellPart_7 N t (d_x6_untellPart_7L N t m) d p _ j) _
    unfold d_x6_untellPart_7
    have e64 : ((p : Int) * 64 + (j : Int)).toNat = 64 * p + j := by omega
    (repeat (first | with_reducible refine One.bd ?_ | (with_reducible refine One.i ?_ ?_; · ((try simp (disch := omega) only [w32i, Int.toNat_natCast, h1]) <;> omega)) | (with_reducible refine One.e ?_ ?_; · ((try simp (disch := omega) only [w32i, Int.toNat_natCast, h1]) <;> omega))))
    rw [w32i (x := (p : Int) * 64 + (j : Int)) (by omega) (by omega), e64, show w8 0 = 0 from rfl]
    refine ih m _ (j + 1) n (by rw [up_ne (by omega)]; exact h1) h2 (by omega) (by omega) (fun a k z y => by rw [up_ne (by omega)]; exact h5 a k z y) (fun q hq hne => ?_) (fun i hi hor => ?_)
    · rcases h6 q hq hne with ⟨z1, z2⟩ | ⟨z1, z2⟩
      · left
        refine ⟨z1, ?_⟩
        unfold IN at *
        simp (disch := omega) only [up_ne]
        refine ⟨z2.1, z2.2.1, z2.2.2.1, z2.2.2.2.1, z2.2.2.2.2.1, z2.2.2.2.2.2.1, z2.2.2.2.2.2.2.1, fun i hi => ?_⟩
        rw [up_nj (by omega)]
        exact z2.2.2.2.2.2.2.2 i hi
      · right
        refine ⟨z1, ?_⟩
        unfold SM at *
        refine ⟨fun j a b => ?_, ?_, fun i hi => ?_⟩
        · rw [up_ne (by omega)]
          exact z2.1 j a b
        · rw [up_ne (by omega)]
          exact z2.2.1
        · rw [up_nj (by omega)]
          exact z2.2.2 i hi
    · by_cases e : i = j
      · subst e; rw [up_same]
      · rw [up_nj (by omega)]
        exact h7 i hi (by omega)
theorem US.part {t N : Nat} {c d : St} {S : Nat → Prop} {p : Nat} (hN : 100 ≤ N) (H : UT t c) (U : US t c S d) (hp : p < 192) : One (d_x6_untellPart N t d (p : Int)) (fun d' _ => US t c (fun q => S q ∨ q = p) d') := by
  unfold d_x6_untellPart
  refine One.bd ?_
  have hc := H.2.1 p hp
  have key : ∃ n : Nat, d (t + 1) p = n ∧ n ≤ 64 ∧ ∀ i : Nat, i < 64 → n ≤ i → d (t + 7) (64 * p + i) = 0 := by
    rcases U.2 p hp with ⟨_, z⟩ | ⟨_, z⟩
    · exact ⟨0, z.1, by omega, fun i hi _ => z.2.2.2.2.2.2.2 i hi⟩
    · refine ⟨(c (t + 1) p).toNat, ?_, by omega, fun i hi hn => ?_⟩
      · rw [z.1 1 (by omega) (by omega)]; omega
      · rw [z.2.2 i hi]
        have := H.2.2.1 p i hp hi
        by_cases e : c (t + 7) (64 * p + i) = 0
        · exact e
        · have := this e
          omega
  obtain ⟨n, k1, k2, k3⟩ := key
  exact e_untP hp n N d 0 n k1 k2 (by omega) (by omega) U.1 (fun q hq _ => U.2 q hq) (fun i hi h => k3 i hi (by omega))
def TZ (t : Nat) (c : St) : Prop := c t 11 = 0 ∧ ∀ p, p < 192 → IN t c p
theorem e_untL {t N : Nat} {c : St} (hN : 200 ≤ N) (H : UT t c) : ∀ (k m : Nat) (d : St) (j : Nat) (S : Nat → Prop), (j : Int) + k = c t 11 → k < m → US t c S d → (∀ i : Nat, i < j → S (c (t + 11) i).toNat) → One (d_x6_untell_2L N t m d (j : Int)) (fun d' _ => TZ t d' ∧ (∀ a k, ¬ (t ≤ a ∧ a ≤ t + 11) → d' a k = c a k) ∧ (∀ k, d' (t + 8) k = c (t + 8) k) ∧ ∀ k, d' (t + 9) k = c (t + 9) k) := by
  intro k
  obtain ⟨h1, h9, h3, h4, h5⟩ := H.1
  induction k with
  | zero =>
    intro m d j S hj hm U hS
    obtain ⟨m, rfl⟩ : ∃ m', m = m' + 1 := ⟨m - 1, by omega⟩
    show One (d_x6_untell_2 N t (d_x6_untell_2L N t m) d j) _
    unfold d_x6_untell_2
    have e11 : d t 11 = c t 11 := U.1 t 11 (by omega) (by omega)
    (repeat (first | with_reducible refine One.bd ?_ | (with_reducible refine One.i ?_ ?_; · ((try simp (disch := omega) only [w32i, Int.toNat_natCast, e11]) <;> omega)) | (with_reducible refine One.e ?_ ?_; · ((try simp (disch := omega) only [w32i, Int.toNat_natCast, e11]) <;> omega))))
    refine One.ret ⟨⟨up_same, fun p hp => ?_⟩, fun a k z => ?_, fun k => ?_, fun k => ?_⟩
    · have key : IN t d p := by
        rcases U.2 p hp with ⟨_, z⟩ | ⟨z1, z⟩
        · exact z
        · rcases h5 p hp with y | ⟨_, m, y1, y2⟩
          · unfold IN
            rw [z.1 1 (by omega) (by omega), z.1 2 (by omega) (by omega), z.1 3 (by omega) (by omega), z.1 4 (by omega) (by omega), z.1 5 (by omega) (by omega), z.1 6 (by omega) (by omega), z.2.1]
            refine ⟨y.2.1, y.2.2.1, y.2.2.2.1, y.2.2.2.2.1, y.2.2.2.2.2.1, y.2.2.2.2.2.2, y.1, fun i hi => ?_⟩
            rw [z.2.2 i hi]
            have := H.2.2.1 p i hp hi
            by_cases e : c (t + 7) (64 * p + i) = 0
            · exact e
            · have := this e
              omega
          · have := hS m (by omega)
            rw [y2, Int.toNat_natCast] at this
            exact absurd this z1
      unfold IN at *
      simp (disch := omega) only [up_ne]
      exact key
    · rw [up_ne (by omega)]
      exact U.1 a k (by omega) (by omega)
    · rw [up_ne (by omega)]
      exact U.1 _ k (by omega) (by omega)
    · rw [up_ne (by omega)]
      exact U.1 _ k (by omega) (by omega)
  | succ k ih =>
    intro m d j S hj hm U hS
    obtain ⟨m, rfl⟩ : ∃ m', m = m' + 1 := ⟨m - 1, by omega⟩
    show One (d_x6_untell_2 N t (d_x6_untell_2L N t m) d j) _
    unfold d_x6_untell_2
    have e11 : d t 11 = c t 11 := U.1 t 11 (by omega) (by omega)
    have e12 : d (t + 11) j = c (t + 11) j := U.1 _ _ (by omega) (by omega)
    have r3 := h3 j (by omega)
    obtain ⟨p, hp⟩ : ∃ p : Nat, c (t + 11) j = p := ⟨(c (t + 11) j).toNat, by omega⟩
    (repeat (first | with_reducible refine One.bd ?_ | (with_reducible refine One.i ?_ ?_; · ((try simp (disch := omega) only [w32i, Int.toNat_natCast, e11]) <;> omega)) | (with_reducible refine One.e ?_ ?_; · ((try simp (disch := omega) only [w32i, Int.toNat_natCast, e11]) <;> omega))))
    rw [w32i (x := (j : Int)) (by omega) (by omega), Int.toNat_natCast, e12, hp]
    refine One.callV (US.part (by omega) H U (by omega)) (fun d' v q => ?_)
    refine One.bd ?_
    refine ih m d' (j + 1) _ (by omega) (by omega) q (fun i hi => ?_)
    by_cases e : i = j
    · right
      rw [e, hp, Int.toNat_natCast]
    · exact Or.inl (hS i (by omega))
/-- all is untold -/
theorem e_untell {t N : Nat} {c : St} (hN : 200 ≤ N) (H : UT t c) : One (d_x6_untell N t c) (fun d' _ => TZ t d' ∧ (∀ a k, ¬ (t ≤ a ∧ a ≤ t + 11) → d' a k = c a k) ∧ (∀ k, d' (t + 8) k = c (t + 8) k) ∧ ∀ k, d' (t + 9) k = c (t + 9) k) := by
  unfold d_x6_untell
  have := H.1.1
  have := H.1.2.1
  exact e_untL hN H (c t 11).toNat N c 0 (fun _ => False) (by omega) (by omega) ⟨fun _ _ _ _ => rfl, fun p hp => Or.inr ⟨fun h => h, fun _ _ _ => rfl, rfl, fun _ _ => rfl⟩⟩ (fun i hi => by omega)
theorem TZ.ut {t : Nat} {c : St} (H : TZ t c) (B : KB t c) : UT t c := by
  refine ⟨⟨by rw [H.1]; omega, by rw [H.1]; omega, fun m hm => by rw [H.1] at hm; omega, fun m m' hm => by rw [H.1] at hm; omega, fun p hp => Or.inl ?_⟩, fun p hp => ?_, fun p i hp hi h => absurd ((H.2 p hp).2.2.2.2.2.2.2 i hi) h, B, fun p i hp hi => by rw [(H.2 p hp).2.2.2.2.2.2.2 i hi]; omega⟩
  · have z := H.2 p hp
    exact ⟨z.2.2.2.2.2.2.1, z.1, z.2.1, z.2.2.1, z.2.2.2.1, z.2.2.2.2.1, z.2.2.2.2.2.1⟩
  · have z := (H.2 p hp).1
    omega
def MZ (r : St) : Prop := (∀ p, p < 192 → r 86 p = 0 ∧ r 87 p = 0 ∧ r 88 p = 0 ∧ r 89 p = 0 ∧ r 90 p = 0) ∧ ∀ k, k < 12288 → r 91 k = 0
theorem cn_0 {f : Nat → Int} : ∀ n : Nat, (∀ i, i < n → f i = 0) → cn f n = 0 := by
  intro n
  induction n with
  | zero => intro _; rfl
  | succ n ih =>
    intro h
    show cn f n + (if f n = 0 ∨ f n = 2 then 0 else 1) = 0
    rw [ih (fun i hi => h i (by omega)), if_pos (Or.inl (h n (by omega)))]
    rfl
theorem TZ.ts {t : Nat} {T c r : St} (H : TZ t c) (Z : MZ r) (B : KB t c) : TS t T c r ∧ MT t T c := by
  refine ⟨⟨fun p hp => ?_, fun p i hp hi => ?_, fun p hp => ?_, fun p i hp hi => ?_, fun p hp => ?_, B⟩, ⟨by rw [H.1]; omega, by rw [H.1]; omega, fun m hm => by rw [H.1] at hm; omega, fun m m' hm => by rw [H.1] at hm; omega, fun p hp => Or.inl ?_⟩⟩
  · have z := H.2 p hp
    have y := Z.1 p hp
    unfold TP
    rw [z.1, z.2.2.1, z.2.2.2.1, y.1, y.2.1, y.2.2.1]
    omega
  · have z := (H.2 p hp).2.2.2.2.2.2.2 i hi
    have y := Z.2 (64 * p + i) (by omega)
    unfold TM
    rw [z, y]
    exact ⟨rfl, Or.inl rfl, fun h => absurd rfl h, fun h => by omega⟩
  · have z := H.2 p hp.1
    have y := Z.1 p hp.1
    unfold TN NX
    rw [z.1, z.2.2.2.2.1, z.2.2.2.2.2.1, y.2.2.2.1, y.2.2.2.2]
    exact ⟨fun _ _ => ⟨fun _ => rfl, fun i hi => by omega⟩, fun _ => by omega⟩
  · have z := H.2 p hp.1
    rw [z.1] at hi
    omega
  · have z := H.2 p hp
    unfold HC
    rw [z.2.1]
    exact (cn_0 64 (fun i hi => z.2.2.2.2.2.2.2 i hi)).symm
  · have z := H.2 p hp
    exact ⟨z.2.2.2.2.2.2.1, z.1, z.2.1, z.2.2.1, z.2.2.2.1, z.2.2.2.2.1, z.2.2.2.2.2.1⟩
