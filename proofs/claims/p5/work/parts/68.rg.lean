def tx (c r : St) : St := fun a k => if 18 ≤ a ∧ a ≤ 25 then c a k else if 78 ≤ a ∧ a ≤ 85 then r a k else 0
def tj (c r : St) : St := fun a k => if 18 ≤ a ∧ a ≤ 25 then c (a + 39) k else if 78 ≤ a ∧ a ≤ 85 then r (a + 33) k else 0
def ir (r : St) : St := fun a k => if a = 86 ∨ a = 87 then r (a + 33) k else if 89 ≤ a ∧ a ≤ 93 then r (a + 32) k else 0
def ID (t : Nat) (c : St) : Prop := ∀ p, p < 192 → c (t + 4) p = 0 ∧ ∀ i : Nat, i < 64 → c (t + 7) (64 * p + i) ≠ 2
def sm (f : Nat → Int) : Nat → Int
  | 0 => 0
  | n + 1 => sm f n + f n
/-- how many TOKENS a part has at least -/
def tk (T : St) (p : Nat) : Int := if T 19 p = 0 ∨ T 19 p = 7 ∨ T 19 p = 11 then 1 else if T 19 p = 1 ∨ T 19 p = 3 ∨ T 19 p = 4 ∨ T 19 p = 5 then 3 else if T 19 p = 2 then 2 * T 24 p else 2
def PW (T : St) (s : Nat) : Prop := (sm (fun k => tk T (24 * s + k)) (T 18 s).toNat ≤ 120 ∧ ∀ k : Nat, (k : Int) < T 18 s → T 19 (24 * s + k) = 2 → ∀ i : Nat, (i : Int) < T 24 (24 * s + k) → -9999 ≤ T 25 (8 * (24 * s + k) + i) ∧ T 25 (8 * (24 * s + k) + i) ≤ 9999) ∨ (T 18 s = 1 ∧ T 19 (24 * s) = 2)
def XT (T : St) : Prop := WT T ∧ ∀ s, s < 8 → PW T s
def TT (c r : St) : Prop := XT (tx c r) ∧ TS 26 (tx c r) c r ∧ MT 26 (tx c r) c ∧ ID 26 c
def IMG (c r : St) : Prop := XT (tj c r) ∧ TS 65 (tj c r) c (ir r) ∧ MT 65 (tj c r) c ∧ ID 65 c
def RT (c r : St) : Prop := r 77 19 = c 1 1 ∧ 0 ≤ c 1 1 ∧ c 1 1 ≤ 120 ∧ ∀ i : Nat, (i : Int) < c 1 1 → r 94 i = c 11 i ∧ 0 ≤ c 11 i ∧ c 11 i ≤ 255
def RI (c r : St) : Prop := r 77 64 = c 0 11 ∧ (c 0 11 = 0 ∨ (c 0 11 = 1 ∧ r 77 63 = c 0 10 ∧ 0 ≤ c 0 10 ∧ c 0 10 ≤ 99 ∧ IMG c r))
def RR (c r : St) : Prop := r 77 39 = c 0 13 ∧ 0 ≤ c 0 13 ∧ c 0 13 ≤ 99
/-- class and model stand alike between two calls -/
def RG (c r : St) : Prop := RT c r ∧ TT c r ∧ (UT 38 c ∧ UT 65 c) ∧ RI c r ∧ RSh c r ∧ RLi c r ∧ RR c r
def QG (c r c' r' : St) (_ : Int) : Prop := RG c' r' ∧ (∀ a k, 77 ≤ a → c' a k = c a k) ∧ ∀ a k, a < 77 → r' a k = r a k
theorem tx_ct (c r : St) : ct c (tx c r) := fun a k h1 h2 => by
  unfold tx
  rw [if_pos ⟨h1, h2⟩]
theorem tx_rt (c r : St) : rt r (tx c r) := fun a k h1 h2 => by
  unfold tx
  rw [if_neg (by omega), if_pos ⟨h1, h2⟩]
theorem tx_cong {c c' r r' : St} (e : ∀ a k, 18 ≤ a → a ≤ 25 → c' a k = c a k) (f : ∀ a k, 78 ≤ a → a ≤ 85 → r' a k = r a k) : tx c' r' = tx c r := by
  funext a k
  unfold tx
  by_cases h1 : 18 ≤ a ∧ a ≤ 25
  · rw [if_pos h1, if_pos h1, e a k h1.1 h1.2]
  · rw [if_neg h1, if_neg h1]
    by_cases h2 : 78 ≤ a ∧ a ≤ 85
    · rw [if_pos h2, if_pos h2, f a k h2.1 h2.2]
    · rw [if_neg h2, if_neg h2]
theorem tj_cong {c c' r r' : St} (e : ∀ a k, 57 ≤ a → a ≤ 64 → c' a k = c a k) (f : ∀ a k, 111 ≤ a → a ≤ 118 → r' a k = r a k) : tj c' r' = tj c r := by
  funext a k
  unfold tj
  by_cases h1 : 18 ≤ a ∧ a ≤ 25
  · rw [if_pos h1, if_pos h1, e _ k (by omega) (by omega)]
  · rw [if_neg h1, if_neg h1]
    by_cases h2 : 78 ≤ a ∧ a ≤ 85
    · rw [if_pos h2, if_pos h2, f _ k (by omega) (by omega)]
    · rw [if_neg h2, if_neg h2]
theorem ir_cong {r r' : St} (f : ∀ a k, 119 ≤ a → a ≤ 125 → r' a k = r a k) : ir r' = ir r := by
  funext a k
  unfold ir
  by_cases h1 : a = 86 ∨ a = 87
  · rw [if_pos h1, if_pos h1, f _ k (by omega) (by omega)]
  · rw [if_neg h1, if_neg h1]
    by_cases h2 : 89 ≤ a ∧ a ≤ 93
    · rw [if_pos h2, if_pos h2, f _ k (by omega) (by omega)]
    · rw [if_neg h2, if_neg h2]
theorem ID.cong {t : Nat} {c c' : St} (H : ID t c) (e : ∀ a k, t ≤ a → a ≤ t + 11 → c' a k = c a k) : ID t c' := fun p hp => ⟨by rw [e _ _ (by omega) (by omega)]; exact (H p hp).1, fun i hi => by rw [e _ _ (by omega) (by omega)]; exact (H p hp).2 i hi⟩
theorem RT.cong {c r c' r' : St} (H : RT c r) (e1 : c' 1 1 = c 1 1) (e2 : ∀ k, c' 11 k = c 11 k) (f1 : r' 77 19 = r 77 19) (f2 : ∀ k, r' 94 k = r 94 k) : RT c' r' := by
  unfold RT at *
  simp only [e1, e2, f1, f2]
  exact H
theorem TT.cong {c r c' r' : St} (H : TT c r) (e : ∀ a k, 18 ≤ a → a ≤ 37 → c' a k = c a k) (f : ∀ a k, 78 ≤ a → a ≤ 93 → r' a k = r a k) : TT c' r' := by
  have h : tx c' r' = tx c r := tx_cong (fun a k h1 h2 => e a k (by omega) (by omega)) (fun a k h1 h2 => f a k (by omega) (by omega))
  unfold TT
  rw [h]
  exact ⟨H.1, H.2.1.cong (fun a k _ _ => e a k (by omega) (by omega)) (fun a k _ _ => f a k (by omega) (by omega)), H.2.2.1.cong (fun a k _ _ => e a k (by omega) (by omega)), H.2.2.2.cong (fun a k _ _ => e a k (by omega) (by omega))⟩
theorem RI.cong {c r c' r' : St} (H : RI c r) (e : ∀ a k, 57 ≤ a → a ≤ 76 → c' a k = c a k) (e0 : c' 0 10 = c 0 10) (e1 : c' 0 11 = c 0 11) (f : ∀ a k, 111 ≤ a → a ≤ 125 → r' a k = r a k) (f0 : r' 77 63 = r 77 63) (f1 : r' 77 64 = r 77 64) : RI c' r' := by
  unfold RI at *
  rw [e0, e1, f0, f1]
  refine ⟨H.1, ?_⟩
  rcases H.2 with z | ⟨z1, z2, z3, z4, z5⟩
  · exact Or.inl z
  · refine Or.inr ⟨z1, z2, z3, z4, ?_⟩
    have h : tj c' r' = tj c r := tj_cong (fun a k h1 h2 => e a k (by omega) (by omega)) (fun a k h1 h2 => f a k (by omega) (by omega))
    have h2 : ir r' = ir r := ir_cong (fun a k h1 h2 => f a k (by omega) (by omega))
    unfold IMG at *
    rw [h, h2]
    exact ⟨z5.1, z5.2.1.cong (fun a k _ _ => e a k (by omega) (by omega)) (fun a k _ _ => rfl), z5.2.2.1.cong (fun a k _ _ => e a k (by omega) (by omega)), z5.2.2.2.cong (fun a k _ _ => e a k (by omega) (by omega))⟩
theorem RSh.cong {c r c' r' : St} (H : RSh c r) (e : ∀ a k, 52 ≤ a → a ≤ 54 → c' a k = c a k) (f : ∀ a k, 126 ≤ a → a ≤ 129 → r' a k = r a k) : RSh c' r' := by
  have e2 := fun k => e 52 k (by omega) (by omega)
  have e3 := fun k => e 53 k (by omega) (by omega)
  have e4 := fun k => e 54 k (by omega) (by omega)
  have f6 := fun k => f 126 k (by omega) (by omega)
  have f7 := fun k => f 127 k (by omega) (by omega)
  have f8 := fun k => f 128 k (by omega) (by omega)
  have f9 := fun k => f 129 k (by omega) (by omega)
  unfold RSh at *
  simp only [e2, e3, e4, f6, f7, f8, f9]
  exact H
theorem RLi.cong {c r c' r' : St} (H : RLi c r) (e : c' 0 12 = c 0 12) (f : r' 77 9 = r 77 9) : RLi c' r' := by
  unfold RLi at *
  rw [e, f]
  exact H
theorem RR.cong {c r c' r' : St} (H : RR c r) (e : c' 0 13 = c 0 13) (f : r' 77 39 = r 77 39) : RR c' r' := by
  unfold RR at *
  rw [e, f]
  exact H
theorem RG.cong {c r c' r' : St} (H : RG c r) (e : ∀ a k, a < 77 → c' a k = c a k) (f : ∀ a k, 77 ≤ a → r' a k = r a k) : RG c' r' := ⟨H.1.cong (e _ _ (by omega)) (fun k => e _ _ (by omega)) (f _ _ (by omega)) (fun k => f _ _ (by omega)), H.2.1.cong (fun a k _ _ => e a k (by omega)) (fun a k _ _ => f a k (by omega)), ⟨H.2.2.1.1.cong (fun a k _ _ => e a k (by omega)), H.2.2.1.2.cong (fun a k _ _ => e a k (by omega))⟩, H.2.2.2.1.cong (fun a k _ _ => e a k (by omega)) (e _ _ (by omega)) (e _ _ (by omega)) (fun a k _ _ => f a k (by omega)) (f _ _ (by omega)) (f _ _ (by omega)), H.2.2.2.2.1.cong (fun a k _ _ => e a k (by omega)) (fun a k _ _ => f a k (by omega)), H.2.2.2.2.2.1.cong (e _ _ (by omega)) (f _ _ (by omega)), H.2.2.2.2.2.2.cong (e _ _ (by omega)) (f _ _ (by omega))⟩
theorem QG.refl {c r : St} (H : RG c r) (v : Int) : QG c r c r v := ⟨H, fun _ _ _ => rfl, fun _ _ _ => rfl⟩
/-- the teller begins -/
theorem S_begin {c r : St} (H : RG c r) {lim lim' : Int} (hl : 0 ≤ lim ∧ lim ≤ 99) (hl' : lim' = lim) : TI 26 (tx c r) (up (up (up c 50 1 ((26 : Nat) : Int)) 50 2 lim) 50 3 0) (up (up r 77 36 0) 77 37 lim') := by
  have h := H.2.1
  refine ⟨⟨h.1.1, ((tx_ct c r).up (by omega)).up (by omega) |>.up (by omega), ((tx_rt c r).up (by omega)).up (by omega)⟩, ?_, h.2.2.1.cong (fun a k _ _ => by rw [up_ne (by omega), up_ne (by omega), up_ne (by omega)]), h.2.1.cong (fun a k _ _ => by rw [up_ne (by omega), up_ne (by omega), up_ne (by omega)]) (fun a k _ _ => by rw [up_ne (by omega), up_ne (by omega)])⟩
  unfold TR
  simp (disch := omega) only [up_same, up_nj, true_and]
  omega
theorem ID.mo {t : Nat} {c c' : St} (H : ID t c) (M : Mo t 192 c c') : ID t c' := fun p hp => ⟨by rw [(M.2.2.2.1 p hp).2.1]; exact (H p hp).1, fun i hi z => (H p hp).2 i hi (((M.2.2.2.2 p i hp hi).1).mpr z)⟩
/-- the teller has told; runs are counted -/
theorem S_end2 {c r c' r' : St} (H : RG c r) (I : TI 26 (tx c r) c' r') (hid : ID 26 c') (ec : ∀ a k, ¬ (a = 50 ∨ a = 55 ∨ (26 ≤ a ∧ a ≤ 37)) → c' a k = c a k) (er : ∀ a k, ¬ (a = 77 ∨ a = 110 ∨ (86 ≤ a ∧ a ≤ 93)) → r' a k = r a k) (er7 : ∀ k, k ≠ 36 → k ≠ 37 → k ≠ 38 → r' 77 k = r 77 k) (v : Int) : QG c r (up c' 0 13 (c' 50 3)) (up r' 77 39 (r' 77 36)) v := by
  have htx : tx (up c' 0 13 (c' 50 3)) (up r' 77 39 (r' 77 36)) = tx c r := tx_cong (fun a k _ _ => by rw [up_ne (by omega)]; exact ec a k (by omega)) (fun a k _ _ => by rw [up_ne (by omega)]; exact er a k (by omega))
  have hR := I.R
  unfold TR at hR
  refine ⟨⟨H.1.cong ?_ (fun k => ?_) ?_ (fun k => ?_), ?_, ⟨H.2.2.1.1.cong (fun a k _ _ => ?_), H.2.2.1.2.cong (fun a k _ _ => ?_)⟩, H.2.2.2.1.cong (fun a k _ _ => ?_) ?_ ?_ (fun a k _ _ => ?_) ?_ ?_, H.2.2.2.2.1.cong (fun a k _ _ => ?_) (fun a k _ _ => ?_), H.2.2.2.2.2.1.cong ?_ ?_, ?_⟩, fun a k _ => ?_, fun a k _ => ?_⟩
  · rw [up_ne (by omega)]; exact ec _ _ (by omega)
  · rw [up_ne (by omega)]; exact ec _ _ (by omega)
  · rw [up_nj (by omega)]; exact er7 _ (by omega) (by omega) (by omega)
  · rw [up_ne (by omega)]; exact er _ _ (by omega)
  · unfold TT
    rw [htx]
    exact ⟨H.2.1.1, I.S.cong (fun a k _ _ => up_ne (by omega)) (fun a k _ _ => up_ne (by omega)), I.T.cong (fun a k _ _ => up_ne (by omega)), hid.cong (fun a k _ _ => up_ne (by omega))⟩
  · rw [up_ne (by omega)]; exact ec _ _ (by omega)
  · rw [up_ne (by omega)]; exact ec _ _ (by omega)
  · rw [up_ne (by omega)]; exact ec _ _ (by omega)
  · rw [up_nj (by omega)]; exact ec _ _ (by omega)
  · rw [up_nj (by omega)]; exact ec _ _ (by omega)
  · rw [up_ne (by omega)]; exact er _ _ (by omega)
  · rw [up_nj (by omega)]; exact er7 _ (by omega) (by omega) (by omega)
  · rw [up_nj (by omega)]; exact er7 _ (by omega) (by omega) (by omega)
  · rw [up_ne (by omega)]; exact ec _ _ (by omega)
  · rw [up_ne (by omega)]; exact er _ _ (by omega)
  · rw [up_nj (by omega)]; exact ec _ _ (by omega)
  · rw [up_nj (by omega)]; exact er7 _ (by omega) (by omega) (by omega)
  · unfold RR
    rw [up_same, up_same]
    omega
  · rw [up_ne (by omega)]; exact ec _ _ (by omega)
  · rw [up_ne (by omega)]; exact er _ _ (by omega)
theorem S_end {c r c' r' : St} (H : RG c r) {lim lim' : Int} (I : TI 26 (tx c r) c' r') (M : Mo 26 192 (up (up (up c 50 1 ((26 : Nat) : Int)) 50 2 lim) 50 3 0) c') (F : Fm (up (up r 77 36 0) 77 37 lim') r') (v : Int) : QG c r (up c' 0 13 (c' 50 3)) (up r' 77 39 (r' 77 36)) v := by
  have hid0 : ID 26 (up (up (up c 50 1 ((26 : Nat) : Int)) 50 2 lim) 50 3 0) := H.2.1.2.2.2.cong (fun a k _ _ => by rw [up_ne (by omega), up_ne (by omega), up_ne (by omega)])
  refine S_end2 H I (hid0.mo M) (fun a k z => ?_) (fun a k z => ?_) (fun k z y w => ?_) v
  · rw [M.1 a k (by omega), up_ne (by omega), up_ne (by omega), up_ne (by omega)]
  · rw [F.1 a k (by omega), up_ne (by omega), up_ne (by omega)]
  · rw [F.2 k z w, up_nj (by omega), up_nj (by omega)]
theorem S7t {N : Nat} {s : St} {a : Int} (h : r32 a) (g : 0 ≤ a ∧ a < 8) : d_x7_isStream N s a = some (s, 1) := by rw [e_isStream7 N s h, if_pos g]
theorem S7f {N : Nat} {s : St} {a : Int} (h : r32 a) (g : ¬ (0 ≤ a ∧ a < 8)) : d_x7_isStream N s a = some (s, 0) := by rw [e_isStream7 N s h, if_neg g]
theorem S8t {N : Nat} {s : St} {a : Int} (h : r32 a) (g : 0 ≤ a ∧ a < 8) : d_x8_isStream N s a = some (s, 1) := by rw [e_isStream8 N s h, if_pos g]
theorem S8f {N : Nat} {s : St} {a : Int} (h : r32 a) (g : ¬ (0 ≤ a ∧ a < 8)) : d_x8_isStream N s a = some (s, 0) := by rw [e_isStream8 N s h, if_neg g]
theorem H7t {N : Nat} {s : St} {a : Int} (h : r32 a) (g : 0 ≤ a ∧ a < 4) : d_x7_isSheet N s a = some (s, 1) := by rw [e_isSheet7 N s h, if_pos g]
theorem H7f {N : Nat} {s : St} {a : Int} (h : r32 a) (g : ¬ (0 ≤ a ∧ a < 4)) : d_x7_isSheet N s a = some (s, 0) := by rw [e_isSheet7 N s h, if_neg g]
theorem H8t {N : Nat} {s : St} {a : Int} (h : r32 a) (g : 0 ≤ a ∧ a < 4) : d_x8_isSheet N s a = some (s, 1) := by rw [e_isSheet8 N s h, if_pos g]
theorem H8f {N : Nat} {s : St} {a : Int} (h : r32 a) (g : ¬ (0 ≤ a ∧ a < 4)) : d_x8_isSheet N s a = some (s, 0) := by rw [e_isSheet8 N s h, if_neg g]
theorem int {N : Nat} {s : St} {v a b : Int} (hv : r32 v) (ha : r32 a) (hb : r32 b) (g : a ≤ v ∧ v ≤ b) : d_x8_in N s (w32 v) a b = some (s, 1) := by rw [w32r hv, e_in32 N s hv ha hb, if_pos g]
theorem inf {N : Nat} {s : St} {v a b : Int} (hv : r32 v) (ha : r32 a) (hb : r32 b) (g : ¬ (a ≤ v ∧ v ≤ b)) : d_x8_in N s (w32 v) a b = some (s, 0) := by rw [w32r hv, e_in32 N s hv ha hb, if_neg g]
theorem Em {N : Nat} {s : St} {a : Nat} (h : a < 8) (g : 0 ≤ s 18 a ∧ s 18 a ≤ 24) : d_x7_isEmpty N s (a : Int) = some (s, if s 18 a = 0 then 1 else 0) := by
  unfold d_x7_isEmpty
  rw [w32i (x := (a : Int)) (by omega) (by omega), Int.toNat_natCast, if_pos (by omega), w32i (x := s 18 a) (by omega) (by omega)]
  split <;> rfl
theorem Rr {N : Nat} {s : St} {a0 a1 a2 : Int} (h0 : r32 a0) (h1 : r32 a1) (h2 : r32 a2) (g : ∀ a : Nat, a < 8 → 0 ≤ s 18 a ∧ s 18 a ≤ 24) : d_x7_refusedRow N s a0 a1 a2 = some (s, if (0 ≤ a0 ∧ a0 < 8) ∧ 0 ≤ a1 ∧ a1 ≤ a2 then (if s 18 a0.toNat = 0 then -3 else 0) else -2) := by
  unfold d_x7_refusedRow
  by_cases hs : 0 ≤ a0 ∧ a0 < 8
  · rw [S7t h0 hs, bI_some, w32_1, if_neg (by decide), w32r h1, w32r h2]
    by_cases h3 : a1 < 0
    · rw [if_pos h3, if_neg (by omega)]
    · rw [if_neg h3]
      by_cases h4 : a2 < a1
      · rw [if_pos h4, if_neg (by omega)]
      · obtain ⟨a, rfl⟩ : ∃ a : Nat, a0 = a := ⟨a0.toNat, by omega⟩
        rw [if_neg h4, if_pos (by omega), Em (by omega) (g a (by omega)), bI_some, Int.toNat_natCast]
        by_cases h5 : s 18 a = 0
        · rw [if_pos h5, if_pos h5, w32_1, if_neg (by decide)]
        · rw [if_neg h5, if_neg h5, w32_0, if_pos rfl]
  · rw [S7f h0 hs, bI_some, w32_0, if_pos rfl, if_neg (by omega)]
