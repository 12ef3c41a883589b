section
def tx (c r : St) : St := fun a k => if 18 ≤ a ∧ a ≤ 25 then c a k else if 78 ≤ a ∧ a ≤ 85 then r a k else 0
def tj (c r : St) : St := fun a k => if 18 ≤ a ∧ a ≤ 25 then c (a + 39) k else if 78 ≤ a ∧ a ≤ 85 then r (a + 33) k else 0
def ir (r : St) : St := fun a k => if a = 86 ∨ a = 87 then r (a + 33) k else if 89 ≤ a ∧ a ≤ 93 then r (a + 32) k else 0
def ID (t : Nat) (c : St) : Prop := ∀ p, p < 192 → c (t + 4) p = 0 ∧ ∀ i : Nat, i < 64 → c (t + 7) (64 * p + i) ≠ 2
def sm (f : Nat → Int) : Nat → Int
  | 0 => 0
  | n + 1 => sm f n + f n
/-- how many TOKENS a part has at least -/
def tk (T : St) (p : Nat) : Int := if T 19 p = 0 ∨ T 19 p = 7 ∨ T 19 p = 11 then 1 else if T 19 p = 1 ∨ T 19 p = 3 ∨ T 19 p = 4 ∨ T 19 p = 5 then 3 else if T 19 p = 2 then 2 * T 24 p else 2
def PW (T : St) (s : Nat) : Prop := (sm (fun k => tk T (24 * s + k)) (T 18 s).toNat ≤ 120 ∧ ∀ k : Nat, (k : Int) < T 18 s → T 19 (24 * s + k) = 2 → ∀ i : Nat, (i : Int) < T 24 (24 * s + k) → -9999 ≤ T 25 (8 * (24 * s + k) + i) ∧ T 25 (8 * (24 * s + k) + i) ≤ 9999) ∨ (T 18 s = 1 ∧ T 19 (24 * s) = 2)
def XT (T : St) : Prop := WT T ∧ ∀ s, s < 8 → PW T s
def TT (c r : St) : Prop := XT (tx c r) ∧ TS 26 (tx c r) c r ∧ MT 26 (tx c r) c ∧ ID 26 c
def IMG (c r : St) : Prop := XT (tj c r) ∧ TS 65 (tj c r) c (ir r) ∧ MT 65 (tj c r) c ∧ ID 65 c
def RT (c r : St) : Prop := r 77 19 = c 1 1 ∧ 0 ≤ c 1 1 ∧ c 1 1 ≤ 120 ∧ ∀ i : Nat, (i : Int) < c 1 1 → r 94 i = c 11 i ∧ 0 ≤ c 11 i ∧ c 11 i ≤ 255
def RI (c r : St) : Prop := r 77 64 = c 0 11 ∧ (c 0 11 = 0 ∨ (c 0 11 = 1 ∧ r 77 63 = c 0 10 ∧ 0 ≤ c 0 10 ∧ c 0 10 ≤ 99 ∧ IMG c r))
def RR (c r : St) : Prop := r 77 39 = c 0 13 ∧ 0 ≤ c 0 13 ∧ c 0 13 ≤ 99
/-- class and model stand alike between two calls -/
def RG (c r : St) : Prop := RT c r ∧ TT c r ∧ (UT 38 c ∧ UT 65 c) ∧ RI c r ∧ RSh c r ∧ RLi c r ∧ RR c r
def QG (c r c' r' : St) (_ : Int) : Prop := RG c' r' ∧ (∀ a k, 77 ≤ a → c' a k = c a k) ∧ ∀ a k, a < 77 → r' a k = r a k
theorem tx_ct (c r : St) : ct c (tx c r) := fun a k h1 h2 => by
  unfold tx
  rw [if_pos ⟨h1, h2⟩]
theorem tx_rt (c r : St) : rt r (tx c r) := fun a k h1 h2 => by
  unfold tx
  rw [if_neg (by omega), if_pos ⟨h1, h2⟩]
theorem tx_cong {c c' r r' : St} (e : ∀ a k, 18 ≤ a → a ≤ 25 → c' a k = c a k) (f : ∀ a k, 78 ≤ a → a ≤ 85 → r' a k = r a k) : tx c' r' = tx c r := by
  funext a k
  unfold tx
  by_cases h1 : 18 ≤ a ∧ a ≤ 25
  · rw [if_pos h1, if_pos h1, e a k h1.1 h1.2]
  · rw [if_neg h1, if_neg h1]
    by_cases h2 : 78 ≤ a ∧ a ≤ 85
    · rw [if_pos h2, if_pos h2, f a k h2.1 h2.2]
    · rw [if_neg h2, if_neg h2]
theorem tj_cong {c c' r r' : St} (e : ∀ a k, 57 ≤ a → a ≤ 64 → c' a k = c a k) (f : ∀ a k, 111 ≤ a → a ≤ 118 → r' a k = r a k) : tj c' r' = tj c r := by
  funext a k
  unfold tj
  by_cases h1 : 18 ≤ a ∧ a ≤ 25
  · rw [if_pos h1, if_pos h1, e _ k (by omega) (by omega)]
  · rw [if_neg h1, if_neg h1]
    by_cases h2 : 78 ≤ a ∧ a ≤ 85
    · rw [if_pos h2, if_pos h2, f _ k (by omega) (by omega)]
    · rw [if_neg h2, if_neg h2]
theorem ir_cong {r r' : St} (f : ∀ a k, 119 ≤ a → a ≤ 125 → r' a k = r a k) : ir r' = ir r := by
  funext a k
  unfold ir
  by_cases h1 : a = 86 ∨ a = 87
  · rw [if_pos h1, if_pos h1, f _ k (by omega) (by omega)]
  · rw [if_neg h1, if_neg h1]
    by_cases h2 : 89 ≤ a ∧ a ≤ 93
    · rw [if_pos h2, if_pos h2, f _ k (by omega) (by omega)]
    · rw [if_neg h2, if_neg h2]
theorem ID.cong {t : Nat} {c c' : St} (H : ID t c) (e : ∀ a k, t ≤ a → a ≤ t + 11 → c' a k = c a k) : ID t c' := fun p hp => ⟨by rw [e _ _ (by omega) (by omega)]; exact (H p hp).1, fun i hi => by rw [e _ _ (by omega) (by omega)]; exact (H p hp).2 i hi⟩
theorem RT.cong {c r c' r' : St} (H : RT c r) (e1 : c' 1 1 = c 1 1) (e2 : ∀ k, c' 11 k = c 11 k) (f1 : r' 77 19 = r 77 19) (f2 : ∀ k, r' 94 k = r 94 k) : RT c' r' := by
  unfold RT at *
  simp only [e1, e2, f1, f2]
  exact H
theorem TT.cong {c r c' r' : St} (H : TT c r) (e : ∀ a k, 18 ≤ a → a ≤ 37 → c' a k = c a k) (f : ∀ a k, 78 ≤ a → a ≤ 93 → r' a k = r a k) : TT c' r' := by
  have h : tx c' r' = tx c r := tx_cong (fun a k h1 h2 => e a k (by omega) (by omega)) (fun a k h1 h2 => f a k (by omega) (by omega))
  unfold TT
  rw [h]
  exact ⟨H.1, H.2.1.cong (fun a k _ _ => e a k (by omega) (by omega)) (fun a k _ _ => f a k (by omega) (by omega)), H.2.2.1.cong (fun a k _ _ => e a k (by omega) (by omega)), H.2.2.2.cong (fun a k _ _ => e a k (by omega) (by omega))⟩
theorem RI.cong {c r c' r' : St} (H : RI c r) (e : ∀ a k, 57 ≤ a → a ≤ 76 → c' a k = c a k) (e0 : c' 0 10 = c 0 10) (e1 : c' 0 11 = c 0 11) (f : ∀ a k, 111 ≤ a → a ≤ 125 → r' a k = r a k) (f0 : r' 77 63 = r 77 63) (f1 : r' 77 64 = r 77 64) : RI c' r' := by
  unfold RI at *
  rw [e0, e1, f0, f1]
  refine ⟨H.1, ?_⟩
  rcases H.2 with z | ⟨z1, z2, z3, z4, z5⟩
  · exact Or.inl z
  · refine Or.inr ⟨z1, z2, z3, z4, ?_⟩
    have h : tj c' r' = tj c r := tj_cong (fun a k h1 h2 => e a k (by omega) (by omega)) (fun a k h1 h2 => f a k (by omega) (by omega))
    have h2 : ir r' = ir r := ir_cong (fun a k h1 h2 => f a k (by omega) (by omega))
    unfold IMG at *
    rw [h, h2]
    exact ⟨z5.1, z5.2.1.cong (fun a k _ _ => e a k (by omega) (by omega)) (fun a k _ _ => rfl), z5.2.2.1.cong (fun a k _ _ => e a k (by omega) (by omega)), z5.2.2.2.cong (fun a k _ _ => e a k (by omega) (by omega))⟩
theorem RSh.cong {c r c' r' : St} (H : RSh c r) (e : ∀ a k, 52 ≤ a → a ≤ 54 → c' a k = c a k) (f : ∀ a k, 126 ≤ a → a ≤ 129 → r' a k = r a k) : RSh c' r' := by
  have e2 := fun k => e 52 k (by omega) (by omega)
  have e3 := fun k => e 53 k (by omega) (by omega)
  have e4 := fun k => e 54 k (by omega) (by omega)
  have f6 := fun k => f 126 k (by omega) (by omega)
  have f7 := fun k => f 127 k (by omega) (by omega)
  have f8 := fun k => f 128 k (by omega) (by omega)
  have f9 := fun k => f 129 k (by omega) (by omega)
  unfold RSh at *
  simp only [e2, e3, e4, f6, f7, f8, f9]
  exact H
theorem RLi.cong {c r c' r' : St} (H : RLi c r) (e : c' 0 12 = c 0 12) (f : r' 77 9 = r 77 9) : RLi c' r' := by
  unfold RLi at *
  rw [e, f]
  exact H
theorem RR.cong {c r c' r' : St} (H : RR c r) (e : c' 0 13 = c 0 13) (f : r' 77 39 = r 77 39) : RR c' r' := by
  unfold RR at *
  rw [e, f]
  exact H
theorem RG.cong {c r c' r' : St} (H : RG c r) (e : ∀ a k, a < 77 → c' a k = c a k) (f : ∀ a k, 77 ≤ a → r' a k = r a k) : RG c' r' := ⟨H.1.cong (e _ _ (by omega)) (fun k => e _ _ (by omega)) (f _ _ (by omega)) (fun k => f _ _ (by omega)), H.2.1.cong (fun a k _ _ => e a k (by omega)) (fun a k _ _ => f a k (by omega)), ⟨H.2.2.1.1.cong (fun a k _ _ => e a k (by omega)), H.2.2.1.2.cong (fun a k _ _ => e a k (by omega))⟩, H.2.2.2.1.cong (fun a k _ _ => e a k (by omega)) (e _ _ (by omega)) (e _ _ (by omega)) (fun a k _ _ => f a k (by omega)) (f _ _ (by omega)) (f _ _ (by omega)), H.2.2.2.2.1.cong (fun a k _ _ => e a k (by omega)) (fun a k _ _ => f a k (by omega)), H.2.2.2.2.2.1.cong (e _ _ (by omega)) (f _ _ (by omega)), H.2.2.2.2.2.2.cong (e _ _ (by omega)) (f _ _ (by omega))⟩
theorem QG.refl {c r : St} (H : RG c r) (v : Int) : QG c r c r v := ⟨H, fun _ _ _ => rfl, fun _ _ _ => rfl⟩
/-- the teller begins -/
theorem S_begin {c r : St} (H : RG c r) {lim lim' : Int} (hl : 0 ≤ lim ∧ lim ≤ 99) (hl' : lim' = lim) : TI 26 (tx c r) (up (up (up c 50 1 ((26 : Nat) : Int)) 50 2 lim) 50 3 0) (up (up r 77 36 0) 77 37 lim') := by
  have h := H.2.1
  refine ⟨⟨h.1.1, ((tx_ct c r).up (by omega)).up (by omega) |>.up (by omega), ((tx_rt c r).up (by omega)).up (by omega)⟩, ?_, h.2.2.1.cong (fun a k _ _ => by rw [up_ne (by omega), up_ne (by omega), up_ne (by omega)]), h.2.1.cong (fun a k _ _ => by rw [up_ne (by omega), up_ne (by omega), up_ne (by omega)]) (fun a k _ _ => by rw [up_ne (by omega), up_ne (by omega)])⟩
  unfold TR
  simp (disch := omega) only [up_same, up_nj, true_and]
  omega
theorem ID.mo {t : Nat} {c c' : St} (H : ID t c) (M : Mo t 192 c c') : ID t c' := fun p hp => ⟨by rw [(M.2.2.2.1 p hp).2.1]; exact (H p hp).1, fun i hi z => (H p hp).2 i hi (((M.2.2.2.2 p i hp hi).1).mpr z)⟩
/-- the teller has told; runs are counted -/
theorem S_end2 {c r c' r' : St} (H : RG c r) (I : TI 26 (tx c r) c' r') (hid : ID 26 c') (ec : ∀ a k, ¬ (a = 50 ∨ a = 55 ∨ (26 ≤ a ∧ a ≤ 37)) → c' a k = c a k) (er : ∀ a k, ¬ (a = 77 ∨ a = 110 ∨ (86 ≤ a ∧ a ≤ 93)) → r' a k = r a k) (er7 : ∀ k, k ≠ 36 → k ≠ 37 → k ≠ 38 → r' 77 k = r 77 k) (v : Int) : QG c r (up c' 0 13 (c' 50 3)) (up r' 77 39 (r' 77 36)) v := by
  have htx : tx (up c' 0 13 (c' 50 3)) (up r' 77 39 (r' 77 36)) = tx c r := tx_cong (fun a k _ _ => by rw [up_ne (by omega)]; exact ec a k (by omega)) (fun a k _ _ => by rw [up_ne (by omega)]; exact er a k (by omega))
  have hR := I.R
  unfold TR at hR
  refine ⟨⟨H.1.cong ?_ (fun k => ?_) ?_ (fun k => ?_), ?_, ⟨H.2.2.1.1.cong (fun a k _ _ => ?_), H.2.2.1.2.cong (fun a k _ _ => ?_)⟩, H.2.2.2.1.cong (fun a k _ _ => ?_) ?_ ?_ (fun a k _ _ => ?_) ?_ ?_, H.2.2.2.2.1.cong (fun a k _ _ => ?_) (fun a k _ _ => ?_), H.2.2.2.2.2.1.cong ?_ ?_, ?_⟩, fun a k _ => ?_, fun a k _ => ?_⟩
  · rw [up_ne (by omega)]; exact ec _ _ (by omega)
  · rw [up_ne (by omega)]; exact ec _ _ (by omega)
  · rw [up_nj (by omega)]; exact er7 _ (by omega) (by omega) (by omega)
  · rw [up_ne (by omega)]; exact er _ _ (by omega)
  · unfold TT
    rw [htx]
    exact ⟨H.2.1.1, I.S.cong (fun a k _ _ => up_ne (by omega)) (fun a k _ _ => up_ne (by omega)), I.T.cong (fun a k _ _ => up_ne (by omega)), hid.cong (fun a k _ _ => up_ne (by omega))⟩
  · rw [up_ne (by omega)]; exact ec _ _ (by omega)
  · rw [up_ne (by omega)]; exact ec _ _ (by omega)
  · rw [up_ne (by omega)]; exact ec _ _ (by omega)
  · rw [up_nj (by omega)]; exact ec _ _ (by omega)
  · rw [up_nj (by omega)]; exact ec _ _ (by omega)
  · rw [up_ne (by omega)]; exact er _ _ (by omega)
  · rw [up_nj (by omega)]; exact er7 _ (by omega) (by omega) (by omega)
  · rw [up_nj (by omega)]; exact er7 _ (by omega) (by omega) (by omega)
  · rw [up_ne (by omega)]; exact ec _ _ (by omega)
  · rw [up_ne (by omega)]; exact er _ _ (by omega)
  · rw [up_nj (by omega)]; exact ec _ _ (by omega)
  · rw [up_nj (by omega)]; exact er7 _ (by omega) (by omega) (by omega)
  · unfold RR
    rw [up_same, up_same]
    omega
  · rw [up_ne (by omega)]; exact ec _ _ (by omega)
  · rw [up_ne (by omega)]; exact er _ _ (by omega)
theorem S_end {c r c' r' : St} (H : RG c r) {lim lim' : Int} (I : TI 26 (tx c r) c' r') (M : Mo 26 192 (up (up (up c 50 1 ((26 : Nat) : Int)) 50 2 lim) 50 3 0) c') (F : Fm (up (up r 77 36 0) 77 37 lim') r') (v : Int) : QG c r (up c' 0 13 (c' 50 3)) (up r' 77 39 (r' 77 36)) v := by
  have hid0 : ID 26 (up (up (up c 50 1 ((26 : Nat) : Int)) 50 2 lim) 50 3 0) := H.2.1.2.2.2.cong (fun a k _ _ => by rw [up_ne (by omega), up_ne (by omega), up_ne (by omega)])
  refine S_end2 H I (hid0.mo M) (fun a k z => ?_) (fun a k z => ?_) (fun k z y w => ?_) v
  · rw [M.1 a k (by omega), up_ne (by omega), up_ne (by omega), up_ne (by omega)]
  · rw [F.1 a k (by omega), up_ne (by omega), up_ne (by omega)]
  · rw [F.2 k z w, up_nj (by omega), up_nj (by omega)]
theorem S7t {N : Nat} {s : St} {a : Int} (h : r32 a) (g : 0 ≤ a ∧ a < 8) : d_x7_isStream N s a = some (s, 1) := by rw [e_isStream7 N s h, if_pos g]
theorem S7f {N : Nat} {s : St} {a : Int} (h : r32 a) (g : ¬ (0 ≤ a ∧ a < 8)) : d_x7_isStream N s a = some (s, 0) := by rw [e_isStream7 N s h, if_neg g]
theorem S8t {N : Nat} {s : St} {a : Int} (h : r32 a) (g : 0 ≤ a ∧ a < 8) : d_x8_isStream N s a = some (s, 1) := by rw [e_isStream8 N s h, if_pos g]
theorem S8f {N : Nat} {s : St} {a : Int} (h : r32 a) (g : ¬ (0 ≤ a ∧ a < 8)) : d_x8_isStream N s a = some (s, 0) := by rw [e_isStream8 N s h, if_neg g]
theorem H7t {N : Nat} {s : St} {a : Int} (h : r32 a) (g : 0 ≤ a ∧ a < 4) : d_x7_isSheet N s a = some (s, 1) := by rw [e_isSheet7 N s h, if_pos g]
theorem H7f {N : Nat} {s : St} {a : Int} (h : r32 a) (g : ¬ (0 ≤ a ∧ a < 4)) : d_x7_isSheet N s a = some (s, 0) := by rw [e_isSheet7 N s h, if_neg g]
theorem H8t {N : Nat} {s : St} {a : Int} (h : r32 a) (g : 0 ≤ a ∧ a < 4) : d_x8_isSheet N s a = some (s, 1) := by rw [e_isSheet8 N s h, if_pos g]
theorem H8f {N : Nat} {s : St} {a : Int} (h : r32 a) (g : ¬ (0 ≤ a ∧ a < 4)) : d_x8_isSheet N s a = some (s, 0) := by rw [e_isSheet8 N s h, if_neg g]
theorem int {N : Nat} {s : St} {v a b : Int} (hv : r32 v) (ha : r32 a) (hb : r32 b) (g : a ≤ v ∧ v ≤ b) : d_x8_in N s (w32 v) a b = some (s, 1) := by rw [w32r hv, e_in32 N s hv ha hb, if_pos g]
theorem inf {N : Nat} {s : St} {v a b : Int} (hv : r32 v) (ha : r32 a) (hb : r32 b) (g : ¬ (a ≤ v ∧ v ≤ b)) : d_x8_in N s (w32 v) a b = some (s, 0) := by rw [w32r hv, e_in32 N s hv ha hb, if_neg g]
theorem Em {N : Nat} {s : St} {a : Nat} (h : a < 8) (g : 0 ≤ s 18 a ∧ s 18 a ≤ 24) : d_x7_isEmpty N s (a : Int) = some (s, if s 18 a = 0 then 1 else 0) := by
  unfold d_x7_isEmpty
  rw [w32i (x := (a : Int)) (by omega) (by omega), Int.toNat_natCast, if_pos (by omega), w32i (x := s 18 a) (by omega) (by omega)]
  split <;> rfl
theorem Rr {N : Nat} {s : St} {a0 a1 a2 : Int} (h0 : r32 a0) (h1 : r32 a1) (h2 : r32 a2) (g : ∀ a : Nat, a < 8 → 0 ≤ s 18 a ∧ s 18 a ≤ 24) : d_x7_refusedRow N s a0 a1 a2 = some (s, if (0 ≤ a0 ∧ a0 < 8) ∧ 0 ≤ a1 ∧ a1 ≤ a2 then (if s 18 a0.toNat = 0 then -3 else 0) else -2) := by
  unfold d_x7_refusedRow
  by_cases hs : 0 ≤ a0 ∧ a0 < 8
  · rw [S7t h0 hs, bI_some, w32_1, if_neg (by decide), w32r h1, w32r h2]
    by_cases h3 : a1 < 0
    · rw [if_pos h3, if_neg (by omega)]
    · rw [if_neg h3]
      by_cases h4 : a2 < a1
      · rw [if_pos h4, if_neg (by omega)]
      · obtain ⟨a, rfl⟩ : ∃ a : Nat, a0 = a := ⟨a0.toNat, by omega⟩
        rw [if_neg h4, if_pos (by omega), Em (by omega) (g a (by omega)), bI_some, Int.toNat_natCast]
        by_cases h5 : s 18 a = 0
        · rw [if_pos h5, if_pos h5, w32_1, if_neg (by decide)]
        · rw [if_neg h5, if_neg h5, w32_0, if_pos rfl]
  · rw [S7f h0 hs, bI_some, w32_0, if_pos rfl, if_neg (by omega)]
end
section
def QO (t : Nat) (T c r : St) (c' r' : St) (v : Int) : Prop := TI t T c' r' ∧ Mo t 192 c c' ∧ Fm r r' ∧ An v ∧ (v = 1 → c' 50 4 = r' 77 38)
theorem L_out {t N : Nat} {T c r : St} (h2 : T2 t) (hN : 100 ≤ N) (H : TI t T c r) {s : Nat} (hs : s < 8) (hne : T 18 s ≠ 0) {y : Int} (hy : 0 ≤ y ∧ y ≤ 1000) : Two (d_x4_outcome N t c (s : Int) y) (d_x8_outcome N r (s : Int) y) (QO t T c r) := by
  have hv := VP.str H.W hs hne
  have hR := H.R
  unfold TR at hR
  unfold d_x4_outcome d_x8_outcome
  refine Two.call ((L_all h2 hN 110).1 c r (24 * s) _ _ _ _ y H hv (by omega) (by omega) rfl rfl hy.1 (by omega) (by omega)) (fun c1 r1 v1 q1 => ?_)
  obtain ⟨H1, M1, F1, A1, V1⟩ := q1
  have g1 := A1.rng
  by_cases hv1 : v1 = 1
  · refine Two.iL (by ((try simp (disch := omega) only [w32i, Int.toNat_natCast]) <;> omega)) (Two.iR (by ((try simp (disch := omega) only [w32i, Int.toNat_natCast]) <;> omega)) ?_)
    refine Two.tail (Two.mono ((L_all h2 hN 110).2 c1 r1 (24 * s) _ _ _ _ y H1 hv (by omega) (by omega) rfl rfl (V1 hv1) (M1.f (by omega))) (fun c2 r2 v2 q2 => ?_))
    obtain ⟨H2, M2, F2, A2, V2⟩ := q2
    exact ⟨H2, M1.trans M2, F1.trans F2, A2.an, V2⟩
  · refine Two.eL (by ((try simp (disch := omega) only [w32i, Int.toNat_natCast]) <;> omega)) (Two.eR (by ((try simp (disch := omega) only [w32i, Int.toNat_natCast]) <;> omega)) ?_)
    exact Two.ret rfl ⟨H1, M1, F1, A1, fun z => absurd z hv1⟩
theorem RG.p18 {c r : St} (H : RG c r) : ∀ a : Nat, a < 8 → (0 ≤ c 18 a ∧ c 18 a ≤ 24) ∧ r 78 a = c 18 a := by
  intro a ha
  have h := H.2.1.1.1.1 a ha
  rw [← tx_ct c r 18 a (by omega) (by omega), ← tx_rt c r 78 a (by omega) (by omega)] at h
  omega
theorem QO.refl {t : Nat} {T c r : St} (H : TI t T c r) {v : Int} (h : An v) (h1 : v ≠ 1) : QO t T c r c r v := ⟨H, Mo.refl, Fm.refl, h, fun z => absurd z h1⟩
theorem Rp {N : Nat} {s : St} {a0 a1 : Int} (h0 : r32 a0) (h1 : r32 a1) (g : ∀ a : Nat, a < 8 → 0 ≤ s 18 a ∧ s 18 a ≤ 24) : d_x7_refusedPlace N s a0 a1 = some (s, if (0 ≤ a0 ∧ a0 < 8) ∧ 0 ≤ a1 ∧ a1 ≤ 63 then (if s 18 a0.toNat = 0 then -3 else 0) else -2) := by
  unfold d_x7_refusedPlace
  rw [Rr h0 h1 (by unfold r32; omega) g]
  rfl
/-- is() -/
theorem r_is {N : Nat} (hN : 100 ≤ N) {c r : St} {a0 a1 : Int} (h0 : r32 a0) (h1 : r32 a1) (H : RG c r) : Two (d_x7_is N c a0 a1) (d_x8_is N r a0 a1) (fun c' r' v => QG c r c' r' v ∧ (v = 1 → c' 50 4 = r' 77 38) ∧ -100 ≤ v ∧ v ≤ 100) := by
  have hp := H.p18
  have hl := H.2.2.2.2.2.1
  unfold RLi at hl
  unfold d_x7_is d_x8_is
  refine Two.cL (Rp h0 h1 (fun a ha => (hp a ha).1)) ?_
  by_cases hs : 0 ≤ a0 ∧ a0 < 8
  · refine Two.cR (S8t h0 hs) (Two.eR (by decide) ?_)
    by_cases hi : 0 ≤ a1 ∧ a1 ≤ 63
    · refine Two.cR (int h1 (by unfold r32; omega) (by unfold r32; omega) hi) (Two.eR (by decide) ?_)
      obtain ⟨s, rfl⟩ : ∃ s : Nat, a0 = s := ⟨a0.toNat, by omega⟩
      have hps := hp s (by omega)
      rw [if_pos (show (0 ≤ (s : Int) ∧ (s : Int) < 8) ∧ 0 ≤ a1 ∧ a1 ≤ 63 from ⟨hs, hi⟩), Int.toNat_natCast]
      by_cases he : c 18 s = 0
      · rw [if_pos he]
        refine Two.eL (by decide) ?_
        (repeat (first | with_reducible refine Two.bdR ?_ | (with_reducible refine Two.iR ?_ ?_; · ((try simp (disch := omega) only [w32i, Int.toNat_natCast]) <;> omega)) | (with_reducible refine Two.eR ?_ ?_; · ((try simp (disch := omega) only [w32i, Int.toNat_natCast]) <;> omega))))
        exact Two.ret rfl ⟨QG.refl H _, fun z => by omega, by omega, by omega⟩
      · rw [if_neg he]
        refine Two.iL (by decide) ?_
        (repeat (first | with_reducible refine Two.bdR ?_ | (with_reducible refine Two.iR ?_ ?_; · ((try simp (disch := omega) only [w32i, Int.toNat_natCast]) <;> omega)) | (with_reducible refine Two.eR ?_ ?_; · ((try simp (disch := omega) only [w32i, Int.toNat_natCast]) <;> omega))))
        refine Two.vL (s := up (up (up c 50 1 ((26 : Nat) : Int)) 50 2 (c 0 12)) 50 3 0) (v := 0) rfl ?_
        refine Two.vR (s := up (up r 77 36 0) 77 37 (r 77 9)) (v := 0) rfl ?_
        refine Two.call (L_out (Or.inl rfl) hN (S_begin H hl.2 hl.1) (s := s) (by omega) (by rw [← tx_ct c r 18 s (by omega) (by omega)]; exact he) (y := a1) (by omega)) (fun c1 r1 v1 q1 => ?_)
        obtain ⟨H1, M1, F1, A1, V1⟩ := q1
        refine Two.cL (s := up c1 0 13 (c1 50 3)) (v := v1) rfl ?_
        refine Two.bdR ?_
        refine Two.ret rfl ⟨S_end H H1 M1 F1 v1, fun z => ?_, A1.rng⟩
        rw [up_ne (by omega), up_nj (by omega)]
        exact V1 z
    · refine Two.cR (inf h1 (by unfold r32; omega) (by unfold r32; omega) hi) (Two.iR (by decide) ?_)
      rw [if_neg (show ¬ ((0 ≤ a0 ∧ a0 < 8) ∧ 0 ≤ a1 ∧ a1 ≤ 63) from fun z => hi z.2)]
      refine Two.eL (by decide) ?_
      exact Two.ret rfl ⟨QG.refl H _, fun z => by omega, by omega, by omega⟩
  · refine Two.cR (S8f h0 hs) (Two.iR (by decide) ?_)
    rw [if_neg (show ¬ ((0 ≤ a0 ∧ a0 < 8) ∧ 0 ≤ a1 ∧ a1 ≤ 63) from fun z => hs z.1)]
    refine Two.eL (by decide) ?_
    exact Two.ret rfl ⟨QG.refl H _, fun z => by omega, by omega, by omega⟩
/-- there() -/
theorem r_there {N : Nat} (hN : 100 ≤ N) {c r : St} {a0 a1 : Int} (h0 : r32 a0) (h1 : r32 a1) (H : RG c r) : Two (d_x7_there N c a0 a1) (d_x8_there N r a0 a1) (QG c r) := by
  have hp := H.p18
  have hl := H.2.2.2.2.2.1
  unfold RLi at hl
  unfold d_x7_there d_x8_there
  refine Two.cL (Rp h0 h1 (fun a ha => (hp a ha).1)) ?_
  by_cases hs : 0 ≤ a0 ∧ a0 < 8
  · refine Two.cR (S8t h0 hs) (Two.eR (by decide) ?_)
    by_cases hi : 0 ≤ a1 ∧ a1 ≤ 63
    · refine Two.cR (int h1 (by unfold r32; omega) (by unfold r32; omega) hi) (Two.eR (by decide) ?_)
      obtain ⟨s, rfl⟩ : ∃ s : Nat, a0 = s := ⟨a0.toNat, by omega⟩
      have hps := hp s (by omega)
      rw [if_pos (show (0 ≤ (s : Int) ∧ (s : Int) < 8) ∧ 0 ≤ a1 ∧ a1 ≤ 63 from ⟨hs, hi⟩), Int.toNat_natCast]
      by_cases he : c 18 s = 0
      · rw [if_pos he]
        refine Two.eL (by decide) ?_
        (repeat (first | with_reducible refine Two.bdR ?_ | (with_reducible refine Two.iR ?_ ?_; · ((try simp (disch := omega) only [w32i, Int.toNat_natCast]) <;> omega)) | (with_reducible refine Two.eR ?_ ?_; · ((try simp (disch := omega) only [w32i, Int.toNat_natCast]) <;> omega))))
        exact Two.ret rfl (QG.refl H _)
      · rw [if_neg he]
        refine Two.iL (by decide) ?_
        (repeat (first | with_reducible refine Two.bdR ?_ | (with_reducible refine Two.iR ?_ ?_; · ((try simp (disch := omega) only [w32i, Int.toNat_natCast]) <;> omega)) | (with_reducible refine Two.eR ?_ ?_; · ((try simp (disch := omega) only [w32i, Int.toNat_natCast]) <;> omega))))
        refine Two.vL (s := up (up (up c 50 1 ((26 : Nat) : Int)) 50 2 (c 0 12)) 50 3 0) (v := 0) rfl ?_
        refine Two.vR (s := up (up r 77 36 0) 77 37 (r 77 9)) (v := 0) rfl ?_
        have HB := S_begin H hl.2 hl.1
        have hv := VP.str HB.W (s := s) (by omega) (by rw [← tx_ct c r 18 s (by omega) (by omega)]; exact he)
        unfold d_x4_isThere
        have hR := HB.R
        unfold TR at hR
        refine Two.call (Two.tailL ((L_all (Or.inl rfl) hN 110).1 _ _ (24 * s) _ _ _ _ a1 HB hv (by omega) (by omega) rfl rfl hi.1 (by omega) (by omega))) (fun c1 r1 v1 q1 => ?_)
        obtain ⟨H1, M1, F1, A1, V1⟩ := q1
        refine Two.cL (s := up c1 0 13 (c1 50 3)) (v := v1) rfl ?_
        refine Two.bdR ?_
        exact Two.ret rfl (S_end H H1 M1 F1 v1)
    · refine Two.cR (inf h1 (by unfold r32; omega) (by unfold r32; omega) hi) (Two.iR (by decide) ?_)
      rw [if_neg (show ¬ ((0 ≤ a0 ∧ a0 < 8) ∧ 0 ≤ a1 ∧ a1 ≤ 63) from fun z => hi z.2)]
      refine Two.eL (by decide) ?_
      exact Two.ret rfl (QG.refl H _)
  · refine Two.cR (S8f h0 hs) (Two.iR (by decide) ?_)
    rw [if_neg (show ¬ ((0 ≤ a0 ∧ a0 < 8) ∧ 0 ≤ a1 ∧ a1 ≤ 63) from fun z => hs z.1)]
    refine Two.eL (by decide) ?_
    exact Two.ret rfl (QG.refl H _)
theorem e_begin {N t : Nat} {s : St} {a : Int} : d_x4_begin N t s a = some (up (up (up s 50 1 (t : Int)) 50 2 a) 50 3 0, 0) := rfl
theorem e_head {N : Nat} {c : St} {a0 a1 : Int} (h0 : r32 a0) (h1 : r32 a1) (g : ∀ a : Nat, a < 8 → 0 ≤ c 18 a ∧ c 18 a ≤ 24) : d_x7_head N c a0 a1 = bI (d_x7_is N c a0 a1) fun s v => if w32 v = 1 then some (s, s 50 4) else some (s, -4611686018427387904) := by
  unfold d_x7_head d_x7_is
  rw [Rp h0 h1 g, bI_some, bI_some]
  have key : ∀ x : Int, (x = -2 ∨ x = -3 ∨ x = 0) → (if w32 x = 0 then bV (d_x4_begin N 26 c (c 0 12)) fun s3 => bI (d_x4_outcome N 26 s3 a0 a1) fun s5 v6 => bI (d_x7_counted N s5 v6) fun s7 v8 => (if (w32 v8) = 1 then some (s7, (s7 50 4)) else some (s7, (-4611686018427387904))) else some (c, (-4611686018427387904))) = bI (if w32 x = 0 then bV (d_x4_begin N 26 c (c 0 12)) fun s3 => bI (d_x4_outcome N 26 s3 a0 a1) fun s5 v6 => bI (d_x7_counted N s5 v6) fun s7 v8 => some (s7, v8) else some (c, x)) fun s v => if w32 v = 1 then some (s, s 50 4) else some (s, -4611686018427387904) := by
    intro x hx
    rw [w32i (x := x) (by omega) (by omega)]
    by_cases hz : x = 0
    · rw [if_pos hz, if_pos hz]
      rw [e_begin, bV_some, bV_some]
      cases d_x4_outcome N 26 (up (up (up c 50 1 ((26 : Nat) : Int)) 50 2 (c 0 12)) 50 3 0) a0 a1 with
      | none => rfl
      | some R => rfl
    · rw [if_neg hz, if_neg hz, bI_some, if_neg (by rw [w32i (x := x) (by omega) (by omega)]; omega)]
  refine key _ ?_
  by_cases z1 : (0 ≤ a0 ∧ a0 < 8) ∧ 0 ≤ a1 ∧ a1 ≤ 63
  · rw [if_pos z1]
    by_cases z2 : c 18 a0.toNat = 0
    · rw [if_pos z2]; omega
    · rw [if_neg z2]; omega
  · rw [if_neg z1]; omega
/-- head() -/
theorem r_head {N : Nat} (hN : 100 ≤ N) {c r : St} {a0 a1 : Int} (h0 : r32 a0) (h1 : r32 a1) (H : RG c r) : Two (d_x7_head N c a0 a1) (d_x8_head N r a0 a1) (QG c r) := by
  rw [e_head h0 h1 (fun a ha => (H.p18 a ha).1)]
  unfold d_x8_head
  refine Two.call (r_is hN h0 h1 H) (fun c1 r1 v1 q1 => ?_)
  have g := q1.2.2
  by_cases hv : v1 = 1
  · refine Two.iL (by ((try simp (disch := omega) only [w32i, Int.toNat_natCast]) <;> omega)) (Two.iR (by ((try simp (disch := omega) only [w32i, Int.toNat_natCast]) <;> omega)) ?_)
    exact Two.ret (q1.2.1 hv).symm q1.1
  · refine Two.eL (by ((try simp (disch := omega) only [w32i, Int.toNat_natCast]) <;> omega)) (Two.eR (by ((try simp (disch := omega) only [w32i, Int.toNat_natCast]) <;> omega)) ?_)
    exact Two.ret rfl q1.1
end
section
/-- sum: what it answers isn't looked at here -/
theorem L_sum {t N : Nat} {T : St} (h2 : T2 t) (hN : 100 ≤ N) {s : Nat} (hs : s < 8) (hne : T 18 s ≠ 0) {n : Int} (hn : 0 ≤ n ∧ n ≤ 64) (c0 r0 : St) : ∀ (k m : Nat) (c r : St) (j x y w : Int), (k : Int) + j = n → 0 ≤ j → k + 1 < m → An w → TI t T c r → Mo t 192 c0 c → Fm r0 r →
    ∃ c' r' v x' w', d_x4_addUp_8L N t m c (s : Int) n x w j = some (c', v) ∧ d_x8_sum_40L N m r (s : Int) n y w j = d_x8_sum_84 N r' x' w' ∧ TI t T c' r' ∧ Mo t 192 c0 c' ∧ Fm r0 r' ∧ An v ∧ An w' := by
  have ex : ∀ (m : Nat) (c r : St) (j x y w : Int), ¬ (j < n ∧ w = 1) → -100 ≤ j ∧ j ≤ 1000 → An w → TI t T c r → Mo t 192 c0 c → Fm r0 r →
      ∃ c' r' v x' w', d_x4_addUp_8L N t (m + 1) c (s : Int) n x w j = some (c', v) ∧ d_x8_sum_40L N (m + 1) r (s : Int) n y w j = d_x8_sum_84 N r' x' w' ∧ TI t T c' r' ∧ Mo t 192 c0 c' ∧ Fm r0 r' ∧ An v ∧ An w' := by
    intro m c r j x y w hj hjr hw H M F
    have g := hw.rng
    have e48 : ∃ c' v, d_x4_addUp_48 N t c x w = some (c', v) ∧ TI t T c' r ∧ Mo t 192 c0 c' ∧ An v := by
      unfold d_x4_addUp_48 d_x4_addUp_59
      have u := U_valL h2 H x
      by_cases h0 : w32 w = 0
      · exact ⟨up c 50 4 x, 1, by rw [if_pos h0]; rfl, u.1, M.trans u.2, Or.inl rfl⟩
      · by_cases h1 : w32 w = 1
        · exact ⟨up c 50 4 x, 1, by rw [if_neg h0, if_pos h1]; rfl, u.1, M.trans u.2, Or.inl rfl⟩
        · exact ⟨c, w, by rw [if_neg h0, if_neg h1], H, M, hw⟩
    obtain ⟨c', v, e1, e2, e3, e4⟩ := e48
    refine ⟨c', r, v, y, w, ?_, ?_, e2, e3, F, e4, hw⟩
    · show d_x4_addUp_8 N t (d_x4_addUp_8L N t m) c _ n x w j = _
      unfold d_x4_addUp_8
      rw [w32i (x := j) (by omega) (by omega), w32i (x := n) (by omega) (by omega), w32i (x := w) (by omega) (by omega), e1]
      by_cases h1 : j < n
      · rw [if_pos h1, if_neg (fun z => hj ⟨h1, z⟩)]
      · rw [if_neg h1]
    · show d_x8_sum_40 N (d_x8_sum_40L N m) r _ n y w j = _
      unfold d_x8_sum_40
      rw [w32i (x := j) (by omega) (by omega), w32i (x := n) (by omega) (by omega), w32i (x := w) (by omega) (by omega)]
      by_cases h1 : j < n
      · rw [if_pos h1, if_neg (fun z => hj ⟨h1, z⟩)]
      · rw [if_neg h1]
  intro k
  induction k with
  | zero =>
    intro m c r j x y w hk hj hm hw H M F
    obtain ⟨m, rfl⟩ : ∃ m', m = m' + 1 := ⟨m - 1, by omega⟩
    exact ex m c r j x y w (by omega) (by omega) hw H M F
  | succ k ih =>
    intro m c r j x y w hk hj hm hw H M F
    obtain ⟨m, rfl⟩ : ∃ m', m = m' + 1 := ⟨m - 1, by omega⟩
    by_cases hw1 : w = 1
    · subst hw1
      obtain ⟨c1, r1, v1, e1, e2, H1, M1, F1, A1, V1⟩ := L_out h2 hN H hs hne (y := j) (by omega)
      have g1 := A1.rng
      have step : ∃ x1 y1, d_x4_addUp_8L N t (m + 1) c (s : Int) n x 1 j = d_x4_addUp_8L N t m c1 (s : Int) n x1 v1 (j + 1) ∧ d_x8_sum_40L N (m + 1) r (s : Int) n y 1 j = d_x8_sum_40L N m r1 (s : Int) n y1 v1 (j + 1) := by
        show ∃ x1 y1, d_x4_addUp_8 N t (d_x4_addUp_8L N t m) c _ n x 1 j = _ ∧ d_x8_sum_40 N (d_x8_sum_40L N m) r _ n y 1 j = _
        unfold d_x4_addUp_8 d_x8_sum_40 d_x4_addUp_42 d_x8_sum_76
        rw [w32i (x := j) (by omega) (by omega), w32i (x := n) (by omega) (by omega), w32_1, if_pos (show j < n by omega), if_pos (show j < n by omega), if_pos (show (1 : Int) = 1 from rfl), if_pos (show (1 : Int) = 1 from rfl), e1, e2, bI_some, bI_some, w32i (x := v1) (by omega) (by omega)]
        by_cases h1 : v1 = 1
        · rw [if_pos h1, if_pos h1]
          exact ⟨_, _, rfl, rfl⟩
        · rw [if_neg h1, if_neg h1]
          exact ⟨_, _, rfl, rfl⟩
      obtain ⟨x1, y1, s1, s2⟩ := step
      rw [s1, s2]
      exact ih m c1 r1 (j + 1) x1 y1 v1 (by omega) (by omega) (by omega) A1 H1 (M.trans M1) (F.trans F1)
    · exact ex m c r j x y w (fun z => hw1 z.2) (by omega) hw H M F
/-- find -/
theorem L_find {t N : Nat} {T : St} (h2 : T2 t) (hN : 100 ≤ N) {s : Nat} (hs : s < 8) (hne : T 18 s ≠ 0) {n x : Int} (hn : 0 ≤ n ∧ n ≤ 64) (c0 r0 : St) : ∀ (k m : Nat) (c r : St) (j : Int), (k : Int) + j = n → 0 ≤ j → k + 2 < m → TI t T c r → Mo t 192 c0 c → Fm r0 r →
    ∃ c' r' v, d_x4_placeOf_3L N t m c (s : Int) x n j = some (c', v) ∧ d_x8_find_52L N m r (s : Int) x n (-1) 1 j = d_x8_find_121 N r' v ∧ TI t T c' r' ∧ Mo t 192 c0 c' ∧ Fm r0 r' := by
  intro k
  induction k with
  | zero =>
    intro m c r j hk hj hm H M F
    obtain ⟨m, rfl⟩ : ∃ m', m = m' + 1 := ⟨m - 1, by omega⟩
    refine ⟨c, r, -1, ?_, ?_, H, M, F⟩
    · show d_x4_placeOf_3 N t (d_x4_placeOf_3L N t m) c _ x n j = _
      unfold d_x4_placeOf_3
      rw [w32i (x := j) (by omega) (by omega), w32i (x := n) (by omega) (by omega), if_neg (by omega)]
    · show d_x8_find_52 N (d_x8_find_52L N m) r _ x n (-1) 1 j = _
      unfold d_x8_find_52
      rw [w32i (x := j) (by omega) (by omega), w32i (x := n) (by omega) (by omega), if_neg (by omega)]
  | succ k ih =>
    intro m c r j hk hj hm H M F
    obtain ⟨m, rfl⟩ : ∃ m', m = m' + 1 := ⟨m - 1, by omega⟩
    obtain ⟨c1, r1, v1, e1, e2, H1, M1, F1, A1, V1⟩ := L_out h2 hN H hs hne (y := j) (by omega)
    have g1 := A1.rng
    have stop : ∀ (z w : Int), -100 ≤ z ∧ z ≤ 1000 → -100 ≤ w ∧ w ≤ 100 → (w ≠ 1 ∨ z ≠ -1) → d_x8_find_52L N m r1 (s : Int) x n z w (j + 1) = d_x8_find_121 N r1 z := by
      intro z w hz hw hzw
      obtain ⟨m, rfl⟩ : ∃ m', m = m' + 1 := ⟨m - 1, by omega⟩
      show d_x8_find_52 N (d_x8_find_52L N m) r1 _ x n z w (j + 1) = _
      unfold d_x8_find_52
      rw [w32i (x := j + 1) (by omega) (by omega), w32i (x := n) (by omega) (by omega), w32i (x := z) (by omega) (by omega), w32i (x := w) (by omega) (by omega)]
      by_cases a : j + 1 < n
      · rw [if_pos a]
        by_cases b : w = 1
        · rw [if_pos b, if_neg (by omega)]
        · rw [if_neg b]
      · rw [if_neg a]
    have M01 := M.trans M1
    have F01 := F.trans F1
    have ec : d_x4_placeOf_3L N t (m + 1) c (s : Int) x n j = (if v1 = -6 then some (c1, -6) else (if v1 = 1 then (if w64 (c1 50 4) = w64 x then some (c1, j) else d_x4_placeOf_3L N t m c1 (s : Int) x n (j + 1)) else some (c1, -1))) := by
      show d_x4_placeOf_3 N t (d_x4_placeOf_3L N t m) c _ x n j = _
      unfold d_x4_placeOf_3
      rw [w32i (x := j) (by omega) (by omega), w32i (x := n) (by omega) (by omega), if_pos (by omega), e1, bI_some, w32i (x := v1) (by omega) (by omega)]
      rfl
    have er : d_x8_find_52L N (m + 1) r (s : Int) x n (-1) 1 j = (if v1 = 1 then (if w64 (r1 77 38) = w64 x then d_x8_find_52L N m r1 (s : Int) x n j v1 (j + 1) else d_x8_find_52L N m r1 (s : Int) x n (-1) v1 (j + 1)) else (if v1 = -6 then d_x8_find_52L N m r1 (s : Int) x n (-6) v1 (j + 1) else d_x8_find_52L N m r1 (s : Int) x n (-1) v1 (j + 1))) := by
      show d_x8_find_52 N (d_x8_find_52L N m) r _ x n (-1) 1 j = _
      unfold d_x8_find_52 d_x8_find_113 d_x8_find_100 d_x8_find_113
      rw [w32i (x := j) (by omega) (by omega), w32i (x := n) (by omega) (by omega), w32_1, show w32 (-1) = -1 from rfl, if_pos (show j < n by omega), if_pos (show (1 : Int) = 1 from rfl), if_pos (show (-1 : Int) = -1 from rfl), e2, bI_some, w32i (x := v1) (by omega) (by omega)]
      by_cases h1 : v1 = 1
      · rw [if_pos h1, if_pos h1, if_neg (show ¬ v1 = -6 by omega)]
        rfl
      · rw [if_neg h1, if_neg h1]
        rfl
    rw [ec, er]
    by_cases h1 : v1 = 1
    · rw [if_neg (show ¬ v1 = -6 by omega), if_pos h1, if_pos h1, ← V1 h1]
      by_cases hx : w64 (c1 50 4) = w64 x
      · rw [if_pos hx, if_pos hx, stop j v1 (by omega) (by omega) (by omega)]
        exact ⟨c1, r1, j, rfl, rfl, H1, M01, F01⟩
      · rw [if_neg hx, if_neg hx, h1]
        exact ih m c1 r1 (j + 1) (by omega) (by omega) (by omega) H1 M01 F01
    · rw [if_neg h1, if_neg h1]
      by_cases h6 : v1 = -6
      · rw [if_pos h6, if_pos h6, stop (-6) v1 (by omega) (by omega) (by omega)]
        exact ⟨c1, r1, -6, rfl, rfl, H1, M01, F01⟩
      · rw [if_neg h6, if_neg h6, stop (-1) v1 (by omega) (by omega) (by omega)]
        exact ⟨c1, r1, -1, rfl, rfl, H1, M01, F01⟩
/-- rises -/
theorem L_rise {t N : Nat} {T : St} (h2 : T2 t) (hN : 100 ≤ N) {s : Nat} (hs : s < 8) (hne : T 18 s ≠ 0) (c0 r0 : St) : ∀ (k m : Nat) (c r : St) (j x y : Int), (k : Int) + j = 64 → 0 ≤ j → k + 2 < m → (0 < j → x = y) → TI t T c r → Mo t 192 c0 c → Fm r0 r →
    ∃ c' r' v w z, d_x4_rising_5L N t m c (s : Int) x j = some (c', v) ∧ d_x8_rises_40L N m r (s : Int) j y 1 j = d_x8_rises_110 N r' z w ∧ TI t T c' r' ∧ Mo t 192 c0 c' ∧ Fm r0 r' ∧ (-100 ≤ w ∧ w ≤ 100) ∧ ((w = -6 ∧ v = -6) ∨ (w ≠ -6 ∧ v = z)) := by
  intro k
  induction k with
  | zero =>
    intro m c r j x y hk hj hm hxy H M F
    obtain ⟨m, rfl⟩ : ∃ m', m = m' + 1 := ⟨m - 1, by omega⟩
    refine ⟨c, r, 64, 1, j, ?_, ?_, H, M, F, by omega, Or.inr ⟨by omega, by omega⟩⟩
    · show d_x4_rising_5 N t (d_x4_rising_5L N t m) c _ x j = _
      unfold d_x4_rising_5
      rw [w32i (x := j) (by omega) (by omega), if_neg (by omega)]
    · show d_x8_rises_40 N (d_x8_rises_40L N m) r _ j y 1 j = _
      unfold d_x8_rises_40
      rw [w32i (x := j) (by omega) (by omega), if_neg (by omega)]
  | succ k ih =>
    intro m c r j x y hk hj hm hxy H M F
    obtain ⟨m, rfl⟩ : ∃ m', m = m' + 1 := ⟨m - 1, by omega⟩
    obtain ⟨c1, r1, v1, e1, e2, H1, M1, F1, A1, V1⟩ := L_out h2 hN H hs hne (y := j) (by omega)
    have g1 := A1.rng
    have stop : ∀ (z y w : Int), -100 ≤ w ∧ w ≤ 100 → w ≠ 1 → d_x8_rises_40L N m r1 (s : Int) z y w (j + 1) = d_x8_rises_110 N r1 z w := by
      intro z y w hw hw1
      obtain ⟨m, rfl⟩ : ∃ m', m = m' + 1 := ⟨m - 1, by omega⟩
      show d_x8_rises_40 N (d_x8_rises_40L N m) r1 _ z y w (j + 1) = _
      unfold d_x8_rises_40
      rw [w32i (x := j + 1) (by omega) (by omega), w32i (x := w) (by omega) (by omega), if_neg hw1]
      split <;> rfl
    have M01 := M.trans M1
    have F01 := F.trans F1
    have ec : d_x4_rising_5L N t (m + 1) c (s : Int) x j = (if v1 = -6 then some (c1, -6) else (if v1 = 1 then (if 0 < j then (if w64 x < w64 (c1 50 4) then d_x4_rising_5L N t m c1 (s : Int) (c1 50 4) (j + 1) else some (c1, j)) else d_x4_rising_5L N t m c1 (s : Int) (c1 50 4) (j + 1)) else some (c1, j))) := by
      show d_x4_rising_5 N t (d_x4_rising_5L N t m) c _ x j = _
      unfold d_x4_rising_5
      rw [w32i (x := j) (by omega) (by omega), if_pos (by omega), e1, bI_some, w32i (x := v1) (by omega) (by omega)]
      rfl
    have er : d_x8_rises_40L N (m + 1) r (s : Int) j y 1 j = (if v1 = 1 then (if 0 < j then (if w64 y < w64 (r1 77 38) then d_x8_rises_40L N m r1 (s : Int) (j + 1) (r1 77 38) v1 (j + 1) else d_x8_rises_40L N m r1 (s : Int) (j + 0) (r1 77 38) 0 (j + 1)) else d_x8_rises_40L N m r1 (s : Int) (j + 1) (r1 77 38) v1 (j + 1)) else d_x8_rises_40L N m r1 (s : Int) (j + 0) (r1 77 38) v1 (j + 1)) := by
      show d_x8_rises_40 N (d_x8_rises_40L N m) r _ j y 1 j = _
      unfold d_x8_rises_40 d_x8_rises_85 d_x8_rises_97
      rw [w32i (x := j) (by omega) (by omega), w32_1, if_pos (show j < 64 by omega), if_pos (show (1 : Int) = 1 from rfl), e2, bI_some, w32i (x := v1) (by omega) (by omega), w32_0, if_neg (show ¬ (0 : Int) = 1 by decide)]
      by_cases h1 : v1 = 1
      · simp only [if_pos h1]
        rfl
      · simp only [if_neg h1]
        rfl
    rw [ec, er]
    by_cases h1 : v1 = 1
    · rw [if_neg (show ¬ v1 = -6 by omega), if_pos h1, if_pos h1, ← V1 h1, h1]
      by_cases hj0 : 0 < j
      · rw [if_pos hj0, if_pos hj0, hxy hj0]
        by_cases hl : w64 y < w64 (c1 50 4)
        · rw [if_pos hl, if_pos hl]
          exact ih m c1 r1 (j + 1) _ _ (by omega) (by omega) (by omega) (fun _ => rfl) H1 M01 F01
        · rw [if_neg hl, if_neg hl, stop _ _ 0 (by omega) (by omega)]
          exact ⟨c1, r1, j, 0, j + 0, rfl, rfl, H1, M01, F01, by omega, Or.inr ⟨by omega, by omega⟩⟩
      · rw [if_neg hj0, if_neg hj0]
        exact ih m c1 r1 (j + 1) _ _ (by omega) (by omega) (by omega) (fun _ => rfl) H1 M01 F01
    · rw [if_neg h1, if_neg h1, stop _ _ v1 (by omega) h1]
      by_cases h6 : v1 = -6
      · rw [if_pos h6]
        exact ⟨c1, r1, -6, v1, j + 0, rfl, rfl, H1, M01, F01, g1, Or.inl ⟨h6, rfl⟩⟩
      · rw [if_neg h6]
        exact ⟨c1, r1, j, v1, j + 0, rfl, rfl, H1, M01, F01, g1, Or.inr ⟨h6, by omega⟩⟩
end
section
/-- differ -/
theorem L_diff {t N : Nat} {T : St} (h2 : T2 t) (hN : 100 ≤ N) {s o : Nat} (hs : s < 8) (hne : T 18 s ≠ 0) (ho : o < 8) (hno : T 18 o ≠ 0) {n : Int} (hn : 0 ≤ n ∧ n ≤ 64) (c0 r0 : St) : ∀ (k m : Nat) (c r : St) (j : Int), (k : Int) + j = n → 0 ≤ j → k + 2 < m → TI t T c r → Mo t 192 c0 c → Fm r0 r →
    ∃ c' r' v, d_x4_firstUnlike_3L N t m c (s : Int) (o : Int) n j = some (c', v) ∧ d_x8_differ_67L N m r (s : Int) (o : Int) n (-1) 1 j = d_x8_differ_192 N r' v ∧ TI t T c' r' ∧ Mo t 192 c0 c' ∧ Fm r0 r' := by
  intro k
  induction k with
  | zero =>
    intro m c r j hk hj hm H M F
    obtain ⟨m, rfl⟩ : ∃ m', m = m' + 1 := ⟨m - 1, by omega⟩
    refine ⟨c, r, -1, ?_, ?_, H, M, F⟩
    · show d_x4_firstUnlike_3 N t (d_x4_firstUnlike_3L N t m) c _ _ n j = _
      unfold d_x4_firstUnlike_3
      rw [w32i (x := j) (by omega) (by omega), w32i (x := n) (by omega) (by omega), if_neg (by omega)]
    · show d_x8_differ_67 N (d_x8_differ_67L N m) r _ _ n (-1) 1 j = _
      unfold d_x8_differ_67
      rw [w32i (x := j) (by omega) (by omega), w32i (x := n) (by omega) (by omega), if_neg (by omega)]
  | succ k ih =>
    intro m c r j hk hj hm H M F
    obtain ⟨m, rfl⟩ : ∃ m', m = m' + 1 := ⟨m - 1, by omega⟩
    obtain ⟨c1, r1, v1, e1, e2, H1, M1, F1, A1, V1⟩ := L_out h2 hN H hs hne (y := j) (by omega)
    have g1 := A1.rng
    have M01 := M.trans M1
    have F01 := F.trans F1
    have stop : ∀ (r1 : St) (z : Int), d_x8_differ_67L N m r1 (s : Int) (o : Int) n z 0 (j + 1) = d_x8_differ_192 N r1 z := by
      intro r1 z
      obtain ⟨m, rfl⟩ : ∃ m', m = m' + 1 := ⟨m - 1, by omega⟩
      show d_x8_differ_67 N (d_x8_differ_67L N m) r1 _ _ n z 0 (j + 1) = _
      unfold d_x8_differ_67
      rw [w32_0, if_pos (show (0 : Int) = 0 from rfl)]
      split <;> rfl
    have ec : d_x4_firstUnlike_3L N t (m + 1) c (s : Int) (o : Int) n j = (if v1 = -6 then some (c1, -6) else bI (d_x4_outcome N t c1 (o : Int) j) fun s5 v6 => (if (w32 v6) = (-6) then some (s5, (-6)) else (if v1 = (w32 v6) then (if v1 = 1 then (if (w64 (c1 50 4)) = (w64 (s5 50 4)) then d_x4_firstUnlike_3L N t m s5 (s : Int) (o : Int) n (j + 1) else some (s5, j)) else some (s5, -1)) else some (s5, j)))) := by
      show d_x4_firstUnlike_3 N t (d_x4_firstUnlike_3L N t m) c _ _ n j = _
      unfold d_x4_firstUnlike_3 d_x4_firstUnlike_79
      rw [w32i (x := j) (by omega) (by omega), w32i (x := n) (by omega) (by omega), if_pos (by omega), e1, bI_some, w32i (x := v1) (by omega) (by omega)]
      by_cases h1 : v1 = 1
      · simp only [if_pos h1]
        rfl
      · simp only [if_neg h1]
        rfl
    have er : d_x8_differ_67L N (m + 1) r (s : Int) (o : Int) n (-1) 1 j = (if v1 = -6 then d_x8_differ_112 N (d_x8_differ_67L N m) r1 (s : Int) (o : Int) n j v1 (r1 77 38) (-6) else bI (d_x8_outcome N r1 (o : Int) j) fun s6 v7 => d_x8_differ_112 N (d_x8_differ_67L N m) s6 (s : Int) (o : Int) n j v1 (r1 77 38) v7) := by
      show d_x8_differ_67 N (d_x8_differ_67L N m) r _ _ n (-1) 1 j = _
      unfold d_x8_differ_67
      rw [w32i (x := j) (by omega) (by omega), w32i (x := n) (by omega) (by omega), if_pos (by omega), w32_1, if_neg (show ¬ (1 : Int) = 0 by decide), e2, bI_some, w32i (x := v1) (by omega) (by omega)]
      rfl
    have e112 : ∀ (r2 : St) (v2 : Int), -100 ≤ v2 ∧ v2 ≤ 100 → ¬ (v1 = 1 ∧ v2 = 1 ∧ w64 (r1 77 38) = w64 (r2 77 38)) → d_x8_differ_112 N (d_x8_differ_67L N m) r2 (s : Int) (o : Int) n j v1 (r1 77 38) v2 = d_x8_differ_192 N r2 (if v2 = -6 then -6 else if v1 = v2 ∧ v1 ≠ 1 then -1 else j) := by
      intro r2 v2 hv2 hno
      have e : d_x8_differ_112 N (d_x8_differ_67L N m) r2 (s : Int) (o : Int) n j v1 (r1 77 38) v2 = d_x8_differ_140 N (d_x8_differ_67L N m) r2 (s : Int) (o : Int) n j v1 (r1 77 38) v2 := by
        unfold d_x8_differ_112
        rw [w32i (x := v1) (by omega) (by omega), w32i (x := v2) (by omega) (by omega)]
        by_cases z1 : v1 = 1
        · by_cases z2 : v2 = 1
          · rw [if_pos z1, if_pos z2, if_neg (fun z => hno ⟨z1, z2, z⟩)]
          · rw [if_pos z1, if_neg z2]
        · rw [if_neg z1]
      rw [e]
      unfold d_x8_differ_140 d_x8_differ_141 d_x8_differ_183 d_x8_differ_178 d_x8_differ_184
      rw [w32i (x := v1) (by omega) (by omega), w32i (x := v2) (by omega) (by omega)]
      simp only [bd_eq, stop]
      by_cases z6 : v2 = -6
      · rw [if_pos z6, if_pos z6]
      · rw [if_neg z6, if_neg z6]
        by_cases z1 : v1 = v2
        · rw [if_pos z1]
          by_cases z2 : v1 = 1
          · rw [if_pos z2, if_neg (fun z => hno ⟨z2, by omega, z⟩), if_neg (by omega)]
          · rw [if_neg z2, if_pos ⟨z1, z2⟩]
        · rw [if_neg z1, if_neg (fun z => z1 z.1)]
    rw [ec, er]
    by_cases h6 : v1 = -6
    · rw [if_pos h6, if_pos h6, e112 r1 (-6) (by omega) (by omega), if_pos rfl]
      exact ⟨c1, r1, -6, rfl, rfl, H1, M01, F01⟩
    · rw [if_neg h6, if_neg h6]
      obtain ⟨c2, r2, v2, e3, e4, H2, M2, F2, A2, V2⟩ := L_out h2 hN H1 ho hno (y := j) (by omega)
      have g2 := A2.rng
      have M02 := M01.trans M2
      have F02 := F01.trans F2
      rw [e3, e4, bI_some, bI_some, w32i (x := v2) (by omega) (by omega)]
      by_cases heq : v1 = 1 ∧ v2 = 1 ∧ w64 (r1 77 38) = w64 (r2 77 38)
      · obtain ⟨z1, z2, z3⟩ := heq
        rw [V1 z1, V2 z2, if_neg (show ¬ v2 = -6 by omega), if_pos (show v1 = v2 by omega), if_pos z1, if_pos z3]
        have : d_x8_differ_112 N (d_x8_differ_67L N m) r2 (s : Int) (o : Int) n j v1 (r1 77 38) v2 = d_x8_differ_67L N m r2 (s : Int) (o : Int) n (-1) 1 (j + 1) := by
          unfold d_x8_differ_112 d_x8_differ_141 d_x8_differ_183 d_x8_differ_184
          rw [w32i (x := v1) (by omega) (by omega), w32i (x := v2) (by omega) (by omega), if_pos z1, if_pos z2, if_pos z3, if_neg (show ¬ v2 = -6 by omega), if_pos (show v1 = v2 by omega), if_pos z1, if_pos z3]
          rfl
        rw [this]
        exact ih m c2 r2 (j + 1) (by omega) (by omega) (by omega) H2 M02 F02
      · rw [e112 r2 v2 g2 heq]
        by_cases z6 : v2 = -6
        · rw [if_pos z6, if_pos z6]
          exact ⟨c2, r2, -6, rfl, rfl, H2, M02, F02⟩
        · rw [if_neg z6, if_neg z6]
          by_cases z1 : v1 = v2
          · rw [if_pos z1]
            by_cases z2 : v1 = 1
            · rw [if_pos z2, V1 z2, V2 (by omega), if_neg (fun z => heq ⟨z2, by omega, z⟩), if_neg (by omega)]
              exact ⟨c2, r2, j, rfl, rfl, H2, M02, F02⟩
            · rw [if_neg z2, if_pos ⟨z1, z2⟩]
              exact ⟨c2, r2, -1, rfl, rfl, H2, M02, F02⟩
          · rw [if_neg z1, if_neg (fun z => z1 z.1)]
            exact ⟨c2, r2, j, rfl, rfl, H2, M02, F02⟩
theorem TI.cong {t : Nat} {T c r c' r' : St} (h2 : T2 t) (H : TI t T c r) (e : ∀ a k, 18 ≤ a → a ≤ 50 → c' a k = c a k) (f : ∀ a k, 78 ≤ a → a ≤ 93 → r' a k = r a k) (f6 : r' 77 36 = r 77 36) (f7 : r' 77 37 = r 77 37) : TI t T c' r' := by
  have hb : 26 ≤ t ∧ t ≤ 38 := by unfold T2 at h2; omega
  refine ⟨⟨H.W, fun a k h1 h2 => (e a k (by omega) (by omega)).trans (H.ct a k h1 h2), fun a k h1 h2 => (f a k (by omega) (by omega)).trans (H.rt a k h1 h2)⟩, ?_, H.T.cong (fun a k _ _ => e a k (by omega) (by omega)), H.S.cong (fun a k _ _ => e a k (by omega) (by omega)) (fun a k _ _ => f a k (by omega) (by omega))⟩
  have h := H.R
  unfold TR at *
  rw [e 50 1 (by omega) (by omega), e 50 2 (by omega) (by omega), e 50 3 (by omega) (by omega), f6, f7]
  exact h
/-- film: the numbers are gathered -/
theorem L_film {N : Nat} {T : St} (hN : 100 ≤ N) {s : Nat} (hs : s < 8) (hne : T 18 s ≠ 0) {n h : Int} (hn : 0 ≤ n ∧ n ≤ 16) (c0 r0 : St) : ∀ (k m : Nat) (c r : St) (j : Nat), (k : Int) + j = n → k + 2 < m → TI 26 T c r → ID 26 c → (∀ a k, ¬ (a = 50 ∨ a = 55 ∨ (26 ≤ a ∧ a ≤ 37)) → c a k = c0 a k) → (∀ a k, ¬ (a = 77 ∨ a = 110 ∨ (86 ≤ a ∧ a ≤ 93)) → r a k = r0 a k) → (∀ k, k ≠ 36 → k ≠ 37 → k ≠ 38 → r 77 k = r0 77 k) → (∀ i : Nat, i < j → r 110 i = c 55 i) →
    ∃ c' r' v w z, d_x4_gather_3L N 26 m c (s : Int) n (j : Int) = some (c', v) ∧ d_x8_film_58L N m r h (s : Int) n (j : Int) 1 (j : Int) = d_x8_film_112 N r' h z w ∧ TI 26 T c' r' ∧ ID 26 c' ∧ (∀ a k, ¬ (a = 50 ∨ a = 55 ∨ (26 ≤ a ∧ a ≤ 37)) → c' a k = c0 a k) ∧ (∀ a k, ¬ (a = 77 ∨ a = 110 ∨ (86 ≤ a ∧ a ≤ 93)) → r' a k = r0 a k) ∧ (∀ k, k ≠ 36 → k ≠ 37 → k ≠ 38 → r' 77 k = r0 77 k) ∧ (-100 ≤ w ∧ w ≤ 100) ∧ ((w = -6 ∧ v = -6) ∨ (w ≠ -6 ∧ v = z ∧ 0 ≤ v ∧ v ≤ n ∧ ∀ i : Nat, (i : Int) < v → r' 110 i = c' 55 i)) := by
  intro k
  induction k with
  | zero =>
    intro m c r j hk hm H I ec er er7 hf
    obtain ⟨m, rfl⟩ : ∃ m', m = m' + 1 := ⟨m - 1, by omega⟩
    refine ⟨c, r, n, 1, j, ?_, ?_, H, I, ec, er, er7, by omega, Or.inr ⟨by omega, by omega, by omega, by omega, fun i hi => hf i (by omega)⟩⟩
    · show d_x4_gather_3 N 26 (d_x4_gather_3L N 26 m) c _ n j = _
      unfold d_x4_gather_3
      rw [w32i (x := (j : Int)) (by omega) (by omega), w32i (x := n) (by omega) (by omega), if_neg (by omega)]
    · show d_x8_film_58 N (d_x8_film_58L N m) r h _ n j 1 j = _
      unfold d_x8_film_58
      rw [w32i (x := (j : Int)) (by omega) (by omega), w32i (x := n) (by omega) (by omega), if_neg (by omega)]
  | succ k ih =>
    intro m c r j hk hm H I ec er er7 hf
    obtain ⟨m, rfl⟩ : ∃ m', m = m' + 1 := ⟨m - 1, by omega⟩
    obtain ⟨c1, r1, v1, e1, e2, H1, M1, F1, A1, V1⟩ := L_out (Or.inl rfl) hN H hs hne (y := j) (by omega)
    have g1 := A1.rng
    have I1 := I.mo M1
    have ec1 : ∀ a k, ¬ (a = 50 ∨ a = 55 ∨ (26 ≤ a ∧ a ≤ 37)) → c1 a k = c0 a k := fun a k z => (M1.1 a k (by omega)).trans (ec a k z)
    have er1 : ∀ a k, ¬ (a = 77 ∨ a = 110 ∨ (86 ≤ a ∧ a ≤ 93)) → r1 a k = r0 a k := fun a k z => (F1.1 a k (by omega)).trans (er a k z)
    have er71 : ∀ k, k ≠ 36 → k ≠ 37 → k ≠ 38 → r1 77 k = r0 77 k := fun k z y w => (F1.2 k z w).trans (er7 k z y w)
    have hf1 : ∀ i : Nat, i < j → r1 110 i = c1 55 i := fun i hi => by rw [F1.1 110 i (by omega), M1.1 55 i (by omega)]; exact hf i hi
    have EC : d_x4_gather_3L N 26 (m + 1) c (s : Int) n (j : Int) = (if v1 = -6 then some (c1, -6) else (if v1 = 1 then d_x4_gather_3L N 26 m (up c1 55 j (c1 50 4)) (s : Int) n ((j : Int) + 1) else some (c1, (j : Int)))) := by
      show d_x4_gather_3 N 26 (d_x4_gather_3L N 26 m) c _ n j = _
      unfold d_x4_gather_3
      rw [w32i (x := (j : Int)) (by omega) (by omega), w32i (x := n) (by omega) (by omega), w32i (x := ((16 : Nat) : Int)) (by omega) (by omega), if_pos (by omega), if_pos (by omega), e1, bI_some, w32i (x := v1) (by omega) (by omega), if_pos (show 0 ≤ (j : Int) ∧ (j : Int) < ((16 : Nat) : Int) by omega), Int.toNat_natCast]
      rfl
    have ER : d_x8_film_58L N (m + 1) r h (s : Int) n (j : Int) 1 (j : Int) = (if v1 = 1 then d_x8_film_58L N m (up r1 110 j (r1 77 38)) h (s : Int) n ((j : Int) + 1) v1 ((j : Int) + 1) else d_x8_film_58L N m (up r1 110 j (r1 77 38)) h (s : Int) n ((j : Int) + 0) v1 ((j : Int) + 1)) := by
      show d_x8_film_58 N (d_x8_film_58L N m) r h _ n j 1 j = _
      unfold d_x8_film_58 d_x8_film_103
      rw [w32i (x := (j : Int)) (by omega) (by omega), w32i (x := n) (by omega) (by omega), w32_1, if_pos (by omega), if_pos (show (1 : Int) = 1 from rfl), e2, bI_some, w32i (x := v1) (by omega) (by omega), if_pos (show 0 ≤ (j : Int) ∧ (j : Int) < ((16 : Nat) : Int) by omega), Int.toNat_natCast]
      rfl
    have Hr : ∀ x : Int, TI 26 T c1 (up r1 110 j x) := fun x => H1.cong (Or.inl rfl) (fun _ _ _ _ => rfl) (fun a k _ _ => up_ne (by omega)) (up_ne (by omega)) (up_ne (by omega))
    have stop : ∀ (z w : Int), -100 ≤ w ∧ w ≤ 100 → w ≠ 1 → d_x8_film_58L N m (up r1 110 j (r1 77 38)) h (s : Int) n z w ((j : Int) + 1) = d_x8_film_112 N (up r1 110 j (r1 77 38)) h z w := by
      intro z w hw hw1
      obtain ⟨m, rfl⟩ : ∃ m', m = m' + 1 := ⟨m - 1, by omega⟩
      show d_x8_film_58 N (d_x8_film_58L N m) _ h _ n z w ((j : Int) + 1) = _
      unfold d_x8_film_58
      rw [w32i (x := w) (by omega) (by omega), if_neg hw1]
      split <;> rfl
    rw [EC, ER]
    by_cases h1 : v1 = 1
    · rw [if_neg (show ¬ v1 = -6 by omega), if_pos h1, if_pos h1, h1]
      refine ih m _ _ (j + 1) (by omega) (by omega) ((Hr _).cong (Or.inl rfl) (fun a k _ _ => up_ne (by omega)) (fun _ _ _ _ => rfl) rfl rfl) (I1.cong (fun a k _ _ => up_ne (by omega))) (fun a k z => by rw [up_ne (by omega)]; exact ec1 a k z) (fun a k z => by rw [up_ne (by omega)]; exact er1 a k z) (fun k z y w => by rw [up_ne (by omega)]; exact er71 k z y w) (fun i hi => ?_)
      by_cases e : i = j
      · subst e
        rw [up_same, up_same]
        exact (V1 h1).symm
      · rw [up_nj e, up_nj e]
        exact hf1 i (by omega)
    · rw [if_neg h1, if_neg h1, stop _ v1 g1 h1]
      have fr : ∀ a k, ¬ (a = 77 ∨ a = 110 ∨ (86 ≤ a ∧ a ≤ 93)) → up r1 110 j (r1 77 38) a k = r0 a k := fun a k z => by rw [up_ne (by omega)]; exact er1 a k z
      have fr7 : ∀ k, k ≠ 36 → k ≠ 37 → k ≠ 38 → up r1 110 j (r1 77 38) 77 k = r0 77 k := fun k z y w => by rw [up_ne (by omega)]; exact er71 k z y w
      by_cases h6 : v1 = -6
      · rw [if_pos h6]
        exact ⟨c1, _, -6, v1, (j : Int) + 0, rfl, rfl, Hr _, I1, ec1, fr, fr7, g1, Or.inl ⟨h6, rfl⟩⟩
      · rw [if_neg h6]
        exact ⟨c1, _, (j : Int), v1, (j : Int) + 0, rfl, rfl, Hr _, I1, ec1, fr, fr7, g1, Or.inr ⟨h6, by omega, by omega, by omega, fun i hi => by rw [up_nj (by omega)]; exact hf1 i (by omega)⟩⟩
end
section
def Tw (A B : Option Rs) (Q : St → St → Prop) : Prop := ∃ c r v w, A = some (c, v) ∧ B = some (r, w) ∧ Q c r
theorem isF {N : Nat} {r : St} {a : Nat} (h : a < 8) (g : 0 ≤ r 78 a ∧ r 78 a ≤ 24) : d_x8_isFull N r (a : Int) = some (r, if r 78 a = 0 then 0 else 1) := by
  unfold d_x8_isFull
  rw [S8t (by unfold r32; omega) (by omega), bI_some, w32_1, if_neg (by decide), w32i (x := (a : Int)) (by omega) (by omega), Int.toNat_natCast, if_pos (by omega), w32i (x := r 78 a) (by omega) (by omega)]
  by_cases e : r 78 a = 0
  · rw [if_pos e, if_neg (by omega)]
  · rw [if_neg e, if_pos (by omega)]
/-- sum(): both end -/
theorem r_sum {N : Nat} (hN : 100 ≤ N) {c r : St} {a0 a1 : Int} (h0 : r32 a0) (h1 : r32 a1) (H : RG c r) : Tw (d_x7_sum N c a0 a1) (d_x8_sum N r a0 a1) (fun c' r' => QG c r c' r' 0) := by
  have hp := H.p18
  have hl := H.2.2.2.2.2.1
  unfold RLi at hl
  unfold d_x7_sum d_x8_sum
  rw [Rr h0 h1 (by unfold r32; omega) (fun a ha => (hp a ha).1), bI_some]
  by_cases hs : 0 ≤ a0 ∧ a0 < 8
  · obtain ⟨s, rfl⟩ : ∃ s : Nat, a0 = s := ⟨a0.toNat, by omega⟩
    have hps := hp s (by omega)
    rw [isF (by omega) (by omega), bI_some, hps.2, Int.toNat_natCast]
    by_cases hi : 0 ≤ a1 ∧ a1 ≤ 64
    · rw [if_pos (show (0 ≤ (s : Int) ∧ (s : Int) < 8) ∧ 0 ≤ a1 ∧ a1 ≤ 64 from ⟨hs, hi⟩)]
      by_cases he : c 18 s = 0
      · rw [if_pos he, if_pos he, if_neg (by decide), if_pos (by decide)]
        exact ⟨c, r, _, _, rfl, rfl, QG.refl H _⟩
      · rw [if_neg he, if_neg he, if_pos (by decide), if_neg (by decide), int h1 (by unfold r32; omega) (by unfold r32; omega) hi, bI_some, if_neg (by decide), e_begin, bV_some]
        obtain ⟨c1, r1, v1, x1, w1, e1, e2, H1, M1, F1, A1, A2⟩ := L_sum (Or.inl rfl) hN (s := s) (by omega) (by rw [← tx_ct c r 18 s (by omega) (by omega)]; exact he) hi _ _ a1.toNat N _ _ 0 0 0 1 (by omega) (by omega) (by omega) (Or.inl rfl) (S_begin H hl.2 hl.1) Mo.refl Fm.refl
        have g1 := A1.rng
        have g2 := A2.rng
        unfold d_x4_addUp
        rw [e1, bI_some]
        have er : bV (d_x8_begins N r (r 77 9)) (fun s10 => d_x8_sum_40L N N s10 (s : Int) a1 0 1 0) = d_x8_sum_84 N r1 x1 w1 := e2
        rw [er]
        refine ⟨up c1 0 13 (c1 50 3), up r1 77 39 (r1 77 36), (if v1 = -6 then -6 else if v1 = 1 then up c1 0 13 (c1 50 3) 50 4 else -4611686018427387904), (if w1 < 0 then -4611686018427387904 else x1), ?_, ?_, S_end H H1 M1 F1 0⟩
        · show (if w32 v1 = -6 then some (up c1 0 13 (c1 50 3), -6) else if w32 v1 = 1 then some (up c1 0 13 (c1 50 3), up c1 0 13 (c1 50 3) 50 4) else some (up c1 0 13 (c1 50 3), -4611686018427387904)) = _
          rw [w32i (x := v1) (by omega) (by omega)]
          split
          · rfl
          · split <;> rfl
        · show (if w32 w1 < 0 then some (up r1 77 39 (r1 77 36), -4611686018427387904) else some (up r1 77 39 (r1 77 36), x1)) = _
          rw [w32i (x := w1) (by omega) (by omega)]
          split <;> rfl
    · rw [if_neg (show ¬ ((0 ≤ (s : Int) ∧ (s : Int) < 8) ∧ 0 ≤ a1 ∧ a1 ≤ 64) from fun z => hi z.2), if_neg (by decide), inf h1 (by unfold r32; omega) (by unfold r32; omega) hi, bI_some]
      refine ⟨c, r, _, -4611686018427387904, rfl, ?_, QG.refl H _⟩
      split
      · rfl
      · rfl
  · rw [if_neg (show ¬ ((0 ≤ a0 ∧ a0 < 8) ∧ 0 ≤ a1 ∧ a1 ≤ 64) from fun z => hs z.1), if_neg (by decide)]
    unfold d_x8_isFull
    rw [S8f h0 hs]
    exact ⟨c, r, _, _, rfl, rfl, QG.refl H _⟩
/-- find() -/
theorem r_find {N : Nat} (hN : 100 ≤ N) {c r : St} {a0 a1 a2 : Int} (h0 : r32 a0) (h2 : r32 a2) (H : RG c r) : Two (d_x7_find N c a0 a1 a2) (d_x8_find N r a0 a1 a2) (QG c r) := by
  have hp := H.p18
  have hl := H.2.2.2.2.2.1
  unfold RLi at hl
  unfold d_x7_find d_x8_find
  refine Two.cL (Rr h0 h2 (by unfold r32; omega) (fun a ha => (hp a ha).1)) ?_
  by_cases hs : 0 ≤ a0 ∧ a0 < 8
  · refine Two.cR (S8t h0 hs) (Two.eR (by decide) ?_)
    by_cases hi : 0 ≤ a2 ∧ a2 ≤ 64
    · refine Two.cR (int h2 (by unfold r32; omega) (by unfold r32; omega) hi) (Two.eR (by decide) ?_)
      obtain ⟨s, rfl⟩ : ∃ s : Nat, a0 = s := ⟨a0.toNat, by omega⟩
      have hps := hp s (by omega)
      rw [if_pos (show (0 ≤ (s : Int) ∧ (s : Int) < 8) ∧ 0 ≤ a2 ∧ a2 ≤ 64 from ⟨hs, hi⟩), Int.toNat_natCast]
      by_cases he : c 18 s = 0
      · rw [if_pos he]
        refine Two.eL (by decide) ?_
        (repeat (first | with_reducible refine Two.bdR ?_ | (with_reducible refine Two.iR ?_ ?_; · ((try simp (disch := omega) only [w32i, Int.toNat_natCast]) <;> omega)) | (with_reducible refine Two.eR ?_ ?_; · ((try simp (disch := omega) only [w32i, Int.toNat_natCast]) <;> omega))))
        exact Two.ret rfl (QG.refl H _)
      · rw [if_neg he]
        refine Two.iL (by decide) ?_
        (repeat (first | with_reducible refine Two.bdR ?_ | (with_reducible refine Two.iR ?_ ?_; · ((try simp (disch := omega) only [w32i, Int.toNat_natCast]) <;> omega)) | (with_reducible refine Two.eR ?_ ?_; · ((try simp (disch := omega) only [w32i, Int.toNat_natCast]) <;> omega))))
        refine Two.vL (s := up (up (up c 50 1 ((26 : Nat) : Int)) 50 2 (c 0 12)) 50 3 0) (v := 0) rfl ?_
        refine Two.vR (s := up (up r 77 36 0) 77 37 (r 77 9)) (v := 0) rfl ?_
        obtain ⟨c1, r1, v1, e1, e2, H1, M1, F1⟩ := L_find (Or.inl rfl) hN (s := s) (by omega) (by rw [← tx_ct c r 18 s (by omega) (by omega)]; exact he) hi _ _ a2.toNat N _ _ 0 (x := a1) (by omega) (by omega) (by omega) (S_begin H hl.2 hl.1) Mo.refl Fm.refl
        unfold d_x4_placeOf
        refine Two.cL e1 ?_
        rw [e2]
        refine Two.cL (s := up c1 0 13 (c1 50 3)) (v := v1) rfl ?_
        unfold d_x8_find_121
        refine Two.bdR ?_
        exact Two.ret rfl (S_end H H1 M1 F1 v1)
    · refine Two.cR (inf h2 (by unfold r32; omega) (by unfold r32; omega) hi) (Two.iR (by decide) ?_)
      rw [if_neg (show ¬ ((0 ≤ a0 ∧ a0 < 8) ∧ 0 ≤ a2 ∧ a2 ≤ 64) from fun z => hi z.2)]
      refine Two.eL (by decide) ?_
      exact Two.ret rfl (QG.refl H _)
  · refine Two.cR (S8f h0 hs) (Two.iR (by decide) ?_)
    rw [if_neg (show ¬ ((0 ≤ a0 ∧ a0 < 8) ∧ 0 ≤ a2 ∧ a2 ≤ 64) from fun z => hs z.1)]
    refine Two.eL (by decide) ?_
    exact Two.ret rfl (QG.refl H _)
/-- rises() -/
theorem r_rises {N : Nat} (hN : 100 ≤ N) {c r : St} {a0 : Int} (h0 : r32 a0) (H : RG c r) : Two (d_x7_rises N c a0) (d_x8_rises N r a0) (QG c r) := by
  have hp := H.p18
  have hl := H.2.2.2.2.2.1
  unfold RLi at hl
  unfold d_x7_rises d_x8_rises
  refine Two.cL (Rr h0 (by unfold r32; omega) (by unfold r32; omega) (fun a ha => (hp a ha).1)) ?_
  by_cases hs : 0 ≤ a0 ∧ a0 < 8
  · refine Two.cR (S8t h0 hs) (Two.eR (by decide) ?_)
    obtain ⟨s, rfl⟩ : ∃ s : Nat, a0 = s := ⟨a0.toNat, by omega⟩
    have hps := hp s (by omega)
    rw [if_pos (show (0 ≤ (s : Int) ∧ (s : Int) < 8) ∧ 0 ≤ (0 : Int) ∧ (0 : Int) ≤ 64 from ⟨hs, by decide⟩), Int.toNat_natCast]
    by_cases he : c 18 s = 0
    · rw [if_pos he]
      refine Two.eL (by decide) ?_
      (repeat (first | with_reducible refine Two.bdR ?_ | (with_reducible refine Two.iR ?_ ?_; · ((try simp (disch := omega) only [w32i, Int.toNat_natCast]) <;> omega)) | (with_reducible refine Two.eR ?_ ?_; · ((try simp (disch := omega) only [w32i, Int.toNat_natCast]) <;> omega))))
      exact Two.ret rfl (QG.refl H _)
    · rw [if_neg he]
      refine Two.iL (by decide) ?_
      (repeat (first | with_reducible refine Two.bdR ?_ | (with_reducible refine Two.iR ?_ ?_; · ((try simp (disch := omega) only [w32i, Int.toNat_natCast]) <;> omega)) | (with_reducible refine Two.eR ?_ ?_; · ((try simp (disch := omega) only [w32i, Int.toNat_natCast]) <;> omega))))
      refine Two.vL (s := up (up (up c 50 1 ((26 : Nat) : Int)) 50 2 (c 0 12)) 50 3 0) (v := 0) rfl ?_
      refine Two.vR (s := up (up r 77 36 0) 77 37 (r 77 9)) (v := 0) rfl ?_
      obtain ⟨c1, r1, v1, w1, z1, e1, e2, H1, M1, F1, g1, V1⟩ := L_rise (Or.inl rfl) hN (s := s) (by omega) (by rw [← tx_ct c r 18 s (by omega) (by omega)]; exact he) _ _ 64 N _ _ 0 0 0 (by omega) (by omega) (by omega) (fun z => by omega) (S_begin H hl.2 hl.1) Mo.refl Fm.refl
      unfold d_x4_rising
      refine Two.cL e1 ?_
      rw [e2]
      refine Two.cL (s := up c1 0 13 (c1 50 3)) (v := v1) rfl ?_
      unfold d_x8_rises_110
      refine Two.bdR ?_
      rcases V1 with ⟨a, b⟩ | ⟨a, b⟩
      · refine Two.iR (by ((try simp (disch := omega) only [w32i, Int.toNat_natCast]) <;> omega)) ?_
        exact Two.ret b.symm (S_end H H1 M1 F1 v1)
      · refine Two.eR (by ((try simp (disch := omega) only [w32i, Int.toNat_natCast]) <;> omega)) ?_
        exact Two.ret b.symm (S_end H H1 M1 F1 v1)
  · refine Two.cR (S8f h0 hs) (Two.iR (by decide) ?_)
    rw [if_neg (show ¬ ((0 ≤ a0 ∧ a0 < 8) ∧ 0 ≤ (0 : Int) ∧ (0 : Int) ≤ 64) from fun z => hs z.1)]
    refine Two.eL (by decide) ?_
    exact Two.ret rfl (QG.refl H _)
/-- differ() -/
theorem r_differ {N : Nat} (hN : 100 ≤ N) {c r : St} {a0 a1 a2 : Int} (h0 : r32 a0) (h1 : r32 a1) (h2 : r32 a2) (H : RG c r) : Two (d_x7_differ N c a0 a1 a2) (d_x8_differ N r a0 a1 a2) (QG c r) := by
  have hp := H.p18
  have hl := H.2.2.2.2.2.1
  unfold RLi at hl
  unfold d_x7_differ d_x8_differ
  by_cases hs : 0 ≤ a0 ∧ a0 < 8
  · refine Two.cR (S8t h0 hs) (Two.eR (by decide) ?_)
    refine Two.cL (S7t h0 hs) (Two.eL (by decide) ?_)
    by_cases hs1 : 0 ≤ a1 ∧ a1 < 8
    · refine Two.cR (S8t h1 hs1) (Two.eR (by decide) ?_)
      refine Two.cL (S7t h1 hs1) (Two.eL (by decide) ?_)
      have h2' := h2
      unfold r32 at h2
      by_cases hi : 0 ≤ a2 ∧ a2 ≤ 64
      · refine Two.cR (int h2' (by unfold r32; omega) (by unfold r32; omega) hi) (Two.eR (by decide) ?_)
        (repeat (first | with_reducible refine Two.bdL ?_ | (with_reducible refine Two.iL ?_ ?_; · ((try simp (disch := omega) only [w32i, Int.toNat_natCast]) <;> omega)) | (with_reducible refine Two.eL ?_ ?_; · ((try simp (disch := omega) only [w32i, Int.toNat_natCast]) <;> omega))))
        obtain ⟨s, rfl⟩ : ∃ s : Nat, a0 = s := ⟨a0.toNat, by omega⟩
        obtain ⟨o, rfl⟩ : ∃ o : Nat, a1 = o := ⟨a1.toNat, by omega⟩
        have hps := hp s (by omega)
        have hpo := hp o (by omega)
        refine Two.cL (Em (by omega) hps.1) ?_
        by_cases he : c 18 s = 0
        · rw [if_pos he]
          refine Two.eL (by decide) ?_
          (repeat (first | with_reducible refine Two.bdR ?_ | (with_reducible refine Two.iR ?_ ?_; · ((try simp (disch := omega) only [w32i, Int.toNat_natCast]) <;> omega)) | (with_reducible refine Two.eR ?_ ?_; · ((try simp (disch := omega) only [w32i, Int.toNat_natCast]) <;> omega))))
          exact Two.ret rfl (QG.refl H _)
        · rw [if_neg he]
          refine Two.iL (by decide) ?_
          refine Two.cL (Em (by omega) hpo.1) ?_
          by_cases he1 : c 18 o = 0
          · rw [if_pos he1]
            refine Two.eL (by decide) ?_
            (repeat (first | with_reducible refine Two.bdR ?_ | (with_reducible refine Two.iR ?_ ?_; · ((try simp (disch := omega) only [w32i, Int.toNat_natCast]) <;> omega)) | (with_reducible refine Two.eR ?_ ?_; · ((try simp (disch := omega) only [w32i, Int.toNat_natCast]) <;> omega))))
            exact Two.ret rfl (QG.refl H _)
          · rw [if_neg he1]
            refine Two.iL (by decide) ?_
            (repeat (first | with_reducible refine Two.bdR ?_ | (with_reducible refine Two.iR ?_ ?_; · ((try simp (disch := omega) only [w32i, Int.toNat_natCast]) <;> omega)) | (with_reducible refine Two.eR ?_ ?_; · ((try simp (disch := omega) only [w32i, Int.toNat_natCast]) <;> omega))))
            refine Two.vL (s := up (up (up c 50 1 ((26 : Nat) : Int)) 50 2 (c 0 12)) 50 3 0) (v := 0) rfl ?_
            refine Two.vR (s := up (up r 77 36 0) 77 37 (r 77 9)) (v := 0) rfl ?_
            obtain ⟨c1, r1, v1, e1, e2, H1, M1, F1⟩ := L_diff (Or.inl rfl) hN (s := s) (o := o) (by omega) (by rw [← tx_ct c r 18 s (by omega) (by omega)]; exact he) (by omega) (by rw [← tx_ct c r 18 o (by omega) (by omega)]; exact he1) hi _ _ a2.toNat N _ _ 0 (by omega) (by omega) (by omega) (S_begin H hl.2 hl.1) Mo.refl Fm.refl
            unfold d_x4_firstUnlike
            refine Two.cL e1 ?_
            rw [e2]
            refine Two.cL (s := up c1 0 13 (c1 50 3)) (v := v1) rfl ?_
            unfold d_x8_differ_192
            refine Two.bdR ?_
            exact Two.ret rfl (S_end H H1 M1 F1 v1)
      · refine Two.cR (inf h2' (by unfold r32; omega) (by unfold r32; omega) hi) (Two.iR (by decide) ?_)
        by_cases hneg : a2 < 0
        · (repeat (first | with_reducible refine Two.bdL ?_ | (with_reducible refine Two.iL ?_ ?_; · ((try simp (disch := omega) only [w32i, Int.toNat_natCast]) <;> omega)) | (with_reducible refine Two.eL ?_ ?_; · ((try simp (disch := omega) only [w32i, Int.toNat_natCast]) <;> omega))))
          exact Two.ret rfl (QG.refl H _)
        · (repeat (first | with_reducible refine Two.bdL ?_ | (with_reducible refine Two.iL ?_ ?_; · ((try simp (disch := omega) only [w32i, Int.toNat_natCast]) <;> omega)) | (with_reducible refine Two.eL ?_ ?_; · ((try simp (disch := omega) only [w32i, Int.toNat_natCast]) <;> omega))))
          exact Two.ret rfl (QG.refl H _)
    · refine Two.cR (S8f h1 hs1) (Two.iR (by decide) ?_)
      refine Two.cL (S7f h1 hs1) (Two.iL (by decide) ?_)
      exact Two.ret rfl (QG.refl H _)
  · refine Two.cR (S8f h0 hs) (Two.iR (by decide) ?_)
    refine Two.cL (S7f h0 hs) (Two.iL (by decide) ?_)
    exact Two.ret rfl (QG.refl H _)
theorem RG.sheets {c r c' r' : St} (H : RG c r) (S : RSh c' r') (e : Fr cSh c c') (f : Fr mSh r r') : RG c' r' := by
  unfold Fr cSh mSh at *
  exact ⟨H.1.cong (e _ _ (by omega)) (fun k => e _ _ (by omega)) (f _ _ (by omega)) (fun k => f _ _ (by omega)), H.2.1.cong (fun a k _ _ => e a k (by omega)) (fun a k _ _ => f a k (by omega)), ⟨H.2.2.1.1.cong (fun a k _ _ => e a k (by omega)), H.2.2.1.2.cong (fun a k _ _ => e a k (by omega))⟩, H.2.2.2.1.cong (fun a k _ _ => e a k (by omega)) (e _ _ (by omega)) (e _ _ (by omega)) (fun a k _ _ => f a k (by omega)) (f _ _ (by omega)) (f _ _ (by omega)), S, H.2.2.2.2.2.1.cong (e _ _ (by omega)) (f _ _ (by omega)), H.2.2.2.2.2.2.cong (e _ _ (by omega)) (f _ _ (by omega))⟩
theorem QG.sheets {c r c' r' : St} (H : RG c r) (S : RSh c' r') (e : Fr cSh c c') (f : Fr mSh r r') (v : Int) : QG c r c' r' v := by
  refine ⟨H.sheets S e f, ?_, ?_⟩
  · intro a k h
    exact e a k (by unfold cSh; omega)
  · intro a k h
    exact f a k (by unfold mSh; omega)
theorem QG.trans {c r c1 r1 c2 r2 : St} {v w : Int} (h : QG c r c1 r1 v) (g : QG c1 r1 c2 r2 w) (x : Int) : QG c r c2 r2 x := ⟨g.1, fun a k z => (g.2.1 a k z).trans (h.2.1 a k z), fun a k z => (g.2.2 a k z).trans (h.2.2 a k z)⟩
theorem RSh.set {c r : St} (H : RSh c r) {h i : Nat} (x : Int) : RSh (up c 54 (h * 40 + i) x) (up r 129 (h * 40 + i) x) := by
  intro k hk
  rcases H k hk with z | ⟨z1, z2, z3, z4, z5, z6, z7⟩
  · left
    rw [up_ne (by omega), up_ne (by omega)]
    exact z
  · right
    rw [up_ne (by omega), up_ne (by omega), up_ne (by omega), up_ne (by omega), up_ne (by omega)]
    refine ⟨z1, z2, z3, z4, z5, z6, fun j hj => ?_⟩
    by_cases e : k * 40 + j = h * 40 + i
    · rw [e, up_same, up_same]
    · rw [up_nj e, up_nj e]
      exact z7 j hj
theorem L_filmW {N : Nat} {h n : Nat} (hh : h < 4) (hn : n ≤ 16) (c0 r0 : St) : ∀ (k m : Nat) (c r : St) (i : Nat), i + k = n → k < m → RSh c r → c 52 h = 0 → Fr cSh c0 c → Fr mSh r0 r → (∀ j : Nat, j < n → r 110 j = c 55 j) →
    Two (d_x7_film_86L N m c (h : Int) (n : Int) (i : Int)) (d_x8_film_142L N m r (h : Int) (n : Int) (i : Int)) (fun c' r' _ => RSh c' r' ∧ Fr cSh c0 c' ∧ Fr mSh r0 r') := by
  intro k
  induction k with
  | zero =>
    intro m c r i hi hm S h5 e f g
    obtain ⟨m, rfl⟩ : ∃ m', m = m' + 1 := ⟨m - 1, by omega⟩
    show Two (d_x7_film_86 N (d_x7_film_86L N m) c h n i) (d_x8_film_142 N (d_x8_film_142L N m) r h n i) _
    unfold d_x7_film_86 d_x8_film_142
    (repeat (first | with_reducible refine Two.bdL ?_ | with_reducible refine Two.bdR ?_ | (with_reducible refine Two.iL ?_ ?_; · ((try simp (disch := omega) only [w32i, Int.toNat_natCast]) <;> omega)) | (with_reducible refine Two.eL ?_ ?_; · ((try simp (disch := omega) only [w32i, Int.toNat_natCast]) <;> omega)) | (with_reducible refine Two.iR ?_ ?_; · ((try simp (disch := omega) only [w32i, Int.toNat_natCast]) <;> omega)) | (with_reducible refine Two.eR ?_ ?_; · ((try simp (disch := omega) only [w32i, Int.toNat_natCast]) <;> omega))))
    exact Two.ret rfl ⟨S, e, f⟩
  | succ k ih =>
    intro m c r i hi hm S h5 e f g
    obtain ⟨m, rfl⟩ : ∃ m', m = m' + 1 := ⟨m - 1, by omega⟩
    show Two (d_x7_film_86 N (d_x7_film_86L N m) c h n i) (d_x8_film_142 N (d_x8_film_142L N m) r h n i) _
    unfold d_x7_film_86 d_x8_film_142
    have e40 : (40 * (h : Int) + (i : Int)).toNat = h * 40 + i := by omega
    (repeat (first | with_reducible refine Two.bdL ?_ | with_reducible refine Two.bdR ?_ | (with_reducible refine Two.iL ?_ ?_; · ((try simp (disch := omega) only [w32i, Int.toNat_natCast]) <;> omega)) | (with_reducible refine Two.eL ?_ ?_; · ((try simp (disch := omega) only [w32i, Int.toNat_natCast]) <;> omega)) | (with_reducible refine Two.iR ?_ ?_; · ((try simp (disch := omega) only [w32i, Int.toNat_natCast]) <;> omega)) | (with_reducible refine Two.eR ?_ ?_; · ((try simp (disch := omega) only [w32i, Int.toNat_natCast]) <;> omega))))
    rw [w32i (x := (i : Int)) (by omega) (by omega), Int.toNat_natCast, w32i (x := 40 * (h : Int) + (i : Int)) (by omega) (by omega), e40, g i (by omega)]
    refine Two.vL (e_write c hh (by omega) (by rw [h5]; unfold r32; omega)) ?_
    refine Two.bdL ?_
    have ecut : cut (c 52 h) (c 55 i) = c 55 i := by
      unfold cut
      rw [h5, if_neg (by decide), if_neg (by decide)]
    rw [ecut]
    refine ih m _ _ (i + 1) (by omega) (by omega) (S.set _) (by rw [up_ne (by omega)]; exact h5) (e.trans (Fr.up (by unfold cSh; omega))) (f.trans (Fr.up (by unfold mSh; omega))) (fun j hj => ?_)
    rw [up_ne (by omega), up_ne (by omega)]
    exact g j hj
/-- film() -/
theorem r_film {N : Nat} (hN : 100 ≤ N) {c r : St} {a0 a1 a2 : Int} (h0 : r32 a0) (h1 : r32 a1) (h2 : r32 a2) (H : RG c r) : Two (d_x7_film N c a0 a1 a2) (d_x8_film N r a0 a1 a2) (QG c r) := by
  have hp := H.p18
  have hl := H.2.2.2.2.2.1
  unfold RLi at hl
  unfold d_x7_film d_x8_film
  by_cases hh : 0 ≤ a0 ∧ a0 < 4
  · refine Two.cR (H8t h0 hh) (Two.eR (by decide) ?_)
    refine Two.cL (H7t h0 hh) (Two.eL (by decide) ?_)
    refine Two.cL (Rr h1 h2 (by unfold r32; omega) (fun a ha => (hp a ha).1)) ?_
    by_cases hs : 0 ≤ a1 ∧ a1 < 8
    · refine Two.cR (S8t h1 hs) (Two.eR (by decide) ?_)
      by_cases hi : 0 ≤ a2 ∧ a2 ≤ 16
      · refine Two.cR (int h2 (by unfold r32; omega) (by unfold r32; omega) hi) (Two.eR (by decide) ?_)
        obtain ⟨s, rfl⟩ : ∃ s : Nat, a1 = s := ⟨a1.toNat, by omega⟩
        have hps := hp s (by omega)
        rw [if_pos (show (0 ≤ (s : Int) ∧ (s : Int) < 8) ∧ 0 ≤ a2 ∧ a2 ≤ 16 from ⟨hs, hi⟩), Int.toNat_natCast]
        by_cases he : c 18 s = 0
        · rw [if_pos he]
          refine Two.eL (by decide) ?_
          (repeat (first | with_reducible refine Two.bdR ?_ | (with_reducible refine Two.iR ?_ ?_; · ((try simp (disch := omega) only [w32i, Int.toNat_natCast]) <;> omega)) | (with_reducible refine Two.eR ?_ ?_; · ((try simp (disch := omega) only [w32i, Int.toNat_natCast]) <;> omega))))
          exact Two.ret rfl (QG.refl H _)
        · rw [if_neg he]
          refine Two.iL (by decide) ?_
          (repeat (first | with_reducible refine Two.bdR ?_ | (with_reducible refine Two.iR ?_ ?_; · ((try simp (disch := omega) only [w32i, Int.toNat_natCast]) <;> omega)) | (with_reducible refine Two.eR ?_ ?_; · ((try simp (disch := omega) only [w32i, Int.toNat_natCast]) <;> omega))))
          refine Two.vL (s := up (up (up c 50 1 ((26 : Nat) : Int)) 50 2 (c 0 12)) 50 3 0) (v := 0) rfl ?_
          refine Two.vR (s := up (up r 77 36 0) 77 37 (r 77 9)) (v := 0) rfl ?_
          obtain ⟨c1, r1, v1, w1, z1, e1, e2, H1, I1, ec, er, er7, g1, V1⟩ := L_film hN (s := s) (T := tx c r) (by omega) (by rw [← tx_ct c r 18 s (by omega) (by omega)]; exact he) (h := a0) hi c r a2.toNat N _ _ 0 (by omega) (by omega) (S_begin H hl.2 hl.1) (H.2.1.2.2.2.cong (fun a k _ _ => by rw [up_ne (by omega), up_ne (by omega), up_ne (by omega)])) (fun a k z => by rw [up_ne (by omega), up_ne (by omega), up_ne (by omega)]) (fun a k z => by rw [up_ne (by omega), up_ne (by omega)]) (fun k z y w => by rw [up_nj (by omega), up_nj (by omega)]) (fun i hi => by omega)
          unfold d_x4_gather
          have e1' : d_x4_gather_3L N 26 N (up (up (up c 50 1 ((26 : Nat) : Int)) 50 2 (c 0 12)) 50 3 0) (s : Int) a2 0 = some (c1, v1) := e1
          have e2' : d_x8_film_58L N N (up (up r 77 36 0) 77 37 (r 77 9)) a0 (s : Int) a2 0 1 0 = d_x8_film_112 N r1 a0 z1 w1 := e2
          refine Two.cL e1' ?_
          rw [e2']
          have QE := S_end2 H H1 I1 ec er er7 0
          refine Two.cL (s := up c1 0 13 (c1 50 3)) (v := v1) rfl ?_
          unfold d_x8_film_112
          refine Two.bdR ?_
          rcases V1 with ⟨a, b⟩ | ⟨a, b, b1, b2, b3⟩
          · (repeat (first | with_reducible refine Two.bdL ?_ | with_reducible refine Two.bdR ?_ | (with_reducible refine Two.iL ?_ ?_; · ((try simp (disch := omega) only [w32i, Int.toNat_natCast]) <;> omega)) | (with_reducible refine Two.eL ?_ ?_; · ((try simp (disch := omega) only [w32i, Int.toNat_natCast]) <;> omega)) | (with_reducible refine Two.iR ?_ ?_; · ((try simp (disch := omega) only [w32i, Int.toNat_natCast]) <;> omega)) | (with_reducible refine Two.eR ?_ ?_; · ((try simp (disch := omega) only [w32i, Int.toNat_natCast]) <;> omega))))
            exact Two.ret rfl QE
          · (repeat (first | with_reducible refine Two.bdL ?_ | with_reducible refine Two.bdR ?_ | (with_reducible refine Two.iL ?_ ?_; · ((try simp (disch := omega) only [w32i, Int.toNat_natCast]) <;> omega)) | (with_reducible refine Two.eL ?_ ?_; · ((try simp (disch := omega) only [w32i, Int.toNat_natCast]) <;> omega)) | (with_reducible refine Two.iR ?_ ?_; · ((try simp (disch := omega) only [w32i, Int.toNat_natCast]) <;> omega)) | (with_reducible refine Two.eR ?_ ?_; · ((try simp (disch := omega) only [w32i, Int.toNat_natCast]) <;> omega))))
            subst b
            obtain ⟨n, rfl⟩ : ∃ n : Nat, v1 = n := ⟨v1.toNat, by omega⟩
            obtain ⟨h, rfl⟩ : ∃ h : Nat, a0 = h := ⟨a0.toNat, by omega⟩
            have hfm : ∀ j : Nat, j < n → up r1 77 39 (r1 77 36) 110 j = up c1 0 13 (c1 50 3) 55 j := fun j hj => by rw [up_ne (by omega), up_ne (by omega)]; exact b3 j (by omega)
            generalize up c1 0 13 (c1 50 3) = c2 at *
            generalize up r1 77 39 (r1 77 36) = r2 at *
            have RN := e_renew hN c2 h n 0 (by omega) (by omega)
            obtain ⟨c3, r3, v3, s1, s2, s3, s4, s5⟩ := r_sheet hN h0 (show r32 0 by unfold r32; omega) (show r32 (n : Int) by unfold r32; omega) QE.1.2.2.2.2.1
            have hc3 : c3 = fz (up (up c2 52 h 0) 53 h n) 54 (h * 40) n 0 := by
              unfold d_x7_sheet at s1
              rw [H7t h0 hh, bI_some, w32_1, if_neg (by decide), w32_0, if_neg (by decide), if_neg (by decide), if_neg (by decide), w32i (x := (n : Int)) (by omega) (by omega), if_neg (by omega), if_neg (by omega), RN, bV_some] at s1
              exact (Prod.mk.inj (Option.some.inj s1)).1.symm
            refine Two.vL RN ?_
            rw [← hc3]
            refine Two.cR s2 ?_
            have h52 : c3 52 h = 0 := by rw [hc3, fz_app, if_neg (by omega), up_ne (by omega), up_same]
            refine Two.mono (L_filmW (h := h) (n := n) (by omega) (by omega) c2 r2 n N c3 r3 0 (by omega) (by omega) s3 h52 s4 s5 (fun j hj => ?_)) (fun c4 r4 v4 q4 => QE.trans (QG.sheets QE.1 q4.1 q4.2.1 q4.2.2 0) _)
            rw [s5 110 j (by unfold mSh; omega), s4 55 j (by unfold cSh; omega)]
            exact hfm j hj
      · refine Two.cR (inf h2 (by unfold r32; omega) (by unfold r32; omega) hi) (Two.iR (by decide) ?_)
        rw [if_neg (show ¬ ((0 ≤ a1 ∧ a1 < 8) ∧ 0 ≤ a2 ∧ a2 ≤ 16) from fun z => hi z.2)]
        refine Two.eL (by decide) ?_
        exact Two.ret rfl (QG.refl H _)
    · refine Two.cR (S8f h1 hs) (Two.iR (by decide) ?_)
      rw [if_neg (show ¬ ((0 ≤ a1 ∧ a1 < 8) ∧ 0 ≤ a2 ∧ a2 ≤ 16) from fun z => hs z.1)]
      refine Two.eL (by decide) ?_
      exact Two.ret rfl (QG.refl H _)
  · refine Two.cR (H8f h0 hh) (Two.iR (by decide) ?_)
    refine Two.cL (H7f h0 hh) (Two.iL (by decide) ?_)
    exact Two.ret rfl (QG.refl H _)
end
section
theorem e_as65 {N : Nat} (r : St) : ∀ (k m : Nat) (d : St) (p : Nat), p + k = 12288 → k < m → (∀ q, q < p → d 107 q = r 91 q ∧ d 108 q = r 92 q ∧ d 109 q = r 93 q) → (∀ a k, ¬ (107 ≤ a ∧ a ≤ 109) → d a k = r a k) → One (d_x8_laysAside_65L N m d (p : Int)) (fun r' _ => (∀ q, q < 12288 → r' 107 q = r 91 q ∧ r' 108 q = r 92 q ∧ r' 109 q = r 93 q) ∧ ∀ a k, ¬ (107 ≤ a ∧ a ≤ 109) → r' a k = r a k) := by
  intro k
  induction k with
  | zero =>
    intro m d p hp hm h1 h2
    obtain ⟨m, rfl⟩ : ∃ m', m = m' + 1 := ⟨m - 1, by omega⟩
    show One (d_x8_laysAside_65 N (d_x8_laysAside_65L N m) d p) _
    unfold d_x8_laysAside_65
    (repeat (first | with_reducible refine One.bd ?_ | (with_reducible refine One.i ?_ ?_; · ((try simp (disch := omega) only [w32i, Int.toNat_natCast]) <;> omega)) | (with_reducible refine One.e ?_ ?_; · ((try simp (disch := omega) only [w32i, Int.toNat_natCast]) <;> omega))))
    exact One.ret ⟨fun q hq => h1 q (by omega), h2⟩
  | succ k ih =>
    intro m d p hp hm h1 h2
    obtain ⟨m, rfl⟩ : ∃ m', m = m' + 1 := ⟨m - 1, by omega⟩
    show One (d_x8_laysAside_65 N (d_x8_laysAside_65L N m) d p) _
    unfold d_x8_laysAside_65
    (repeat (first | with_reducible refine One.bd ?_ | (with_reducible refine One.i ?_ ?_; · ((try simp (disch := omega) only [w32i, Int.toNat_natCast]) <;> omega)) | (with_reducible refine One.e ?_ ?_; · ((try simp (disch := omega) only [w32i, Int.toNat_natCast]) <;> omega))))
    rw [w32i (x := (p : Int)) (by omega) (by omega), Int.toNat_natCast]
    refine ih m _ (p + 1) (by omega) (by omega) (fun q hq => ?_) (fun a k z => ?_)
    · by_cases e : q = p
      · subst e
        simp (disch := omega) only [up_ne, up_same]
        exact ⟨h2 _ _ (by omega), h2 _ _ (by omega), h2 _ _ (by omega)⟩
      · simp (disch := omega) only [up_ne, up_nj]
        exact h1 q (by omega)
    · simp (disch := omega) only [up_ne]
      exact h2 a k z
theorem e_as2 {N : Nat} (hN : 20000 ≤ N) (r : St) : ∀ (k m : Nat) (d : St) (p : Nat), p + k = 192 → k < m → (∀ q, q < p → d 103 q = r 86 q ∧ d 104 q = r 87 q ∧ d 105 q = r 89 q ∧ d 106 q = r 90 q) → (∀ a k, ¬ (103 ≤ a ∧ a ≤ 106) → d a k = r a k) → One (d_x8_laysAside_2L N m d (p : Int)) (fun r' _ => (∀ q, q < 192 → r' 103 q = r 86 q ∧ r' 104 q = r 87 q ∧ r' 105 q = r 89 q ∧ r' 106 q = r 90 q) ∧ (∀ q, q < 12288 → r' 107 q = r 91 q ∧ r' 108 q = r 92 q ∧ r' 109 q = r 93 q) ∧ ∀ a k, ¬ (103 ≤ a ∧ a ≤ 109) → r' a k = r a k) := by
  intro k
  induction k with
  | zero =>
    intro m d p hp hm h1 h2
    obtain ⟨m, rfl⟩ : ∃ m', m = m' + 1 := ⟨m - 1, by omega⟩
    show One (d_x8_laysAside_2 N (d_x8_laysAside_2L N m) d p) _
    unfold d_x8_laysAside_2
    (repeat (first | with_reducible refine One.bd ?_ | (with_reducible refine One.i ?_ ?_; · ((try simp (disch := omega) only [w32i, Int.toNat_natCast]) <;> omega)) | (with_reducible refine One.e ?_ ?_; · ((try simp (disch := omega) only [w32i, Int.toNat_natCast]) <;> omega))))
    refine One.mono (e_as65 d 12288 N d 0 (by omega) (by omega) (fun q hq => by omega) (fun _ _ _ => rfl)) (fun r' v q => ⟨fun j hj => ?_, fun j hj => ?_, fun a k z => ?_⟩)
    · rw [q.2 103 j (by omega), q.2 104 j (by omega), q.2 105 j (by omega), q.2 106 j (by omega)]
      exact h1 j (by omega)
    · have := q.1 j hj
      rw [h2 91 j (by omega), h2 92 j (by omega), h2 93 j (by omega)] at this
      exact this
    · rw [q.2 a k (by omega)]
      exact h2 a k (by omega)
  | succ k ih =>
    intro m d p hp hm h1 h2
    obtain ⟨m, rfl⟩ : ∃ m', m = m' + 1 := ⟨m - 1, by omega⟩
    show One (d_x8_laysAside_2 N (d_x8_laysAside_2L N m) d p) _
    unfold d_x8_laysAside_2
    (repeat (first | with_reducible refine One.bd ?_ | (with_reducible refine One.i ?_ ?_; · ((try simp (disch := omega) only [w32i, Int.toNat_natCast]) <;> omega)) | (with_reducible refine One.e ?_ ?_; · ((try simp (disch := omega) only [w32i, Int.toNat_natCast]) <;> omega))))
    rw [w32i (x := (p : Int)) (by omega) (by omega), Int.toNat_natCast]
    refine ih m _ (p + 1) (by omega) (by omega) (fun q hq => ?_) (fun a k z => ?_)
    · by_cases e : q = p
      · subst e
        simp (disch := omega) only [up_ne, up_same]
        exact ⟨h2 _ _ (by omega), h2 _ _ (by omega), h2 _ _ (by omega), h2 _ _ (by omega)⟩
      · simp (disch := omega) only [up_ne, up_nj]
        exact h1 q (by omega)
    · simp (disch := omega) only [up_ne]
      exact h2 a k z
theorem e_aside {N : Nat} (hN : 20000 ≤ N) (r : St) : One (d_x8_laysAside N r) (fun r' _ => (∀ q, q < 192 → r' 103 q = r 86 q ∧ r' 104 q = r 87 q ∧ r' 105 q = r 89 q ∧ r' 106 q = r 90 q) ∧ (∀ q, q < 12288 → r' 107 q = r 91 q ∧ r' 108 q = r 92 q ∧ r' 109 q = r 93 q) ∧ ∀ a k, ¬ (103 ≤ a ∧ a ≤ 109) → r' a k = r a k) := e_as2 hN r 192 N r 0 (by omega) (by omega) (fun q hq => by omega) (fun _ _ _ => rfl)
theorem e_bk65 {N : Nat} (r : St) : ∀ (k m : Nat) (d : St) (p : Nat), p + k = 12288 → k < m → (∀ q, q < p → d 91 q = r 107 q ∧ d 92 q = r 108 q ∧ d 93 q = r 109 q) → (∀ a k, ¬ (91 ≤ a ∧ a ≤ 93) → d a k = r a k) → One (d_x8_laysBack_65L N m d (p : Int)) (fun r' _ => (∀ q, q < 12288 → r' 91 q = r 107 q ∧ r' 92 q = r 108 q ∧ r' 93 q = r 109 q) ∧ ∀ a k, ¬ (91 ≤ a ∧ a ≤ 93) → r' a k = r a k) := by
  intro k
  induction k with
  | zero =>
    intro m d p hp hm h1 h2
    obtain ⟨m, rfl⟩ : ∃ m', m = m' + 1 := ⟨m - 1, by omega⟩
    show One (d_x8_laysBack_65 N (d_x8_laysBack_65L N m) d p) _
    unfold d_x8_laysBack_65
    (repeat (first | with_reducible refine One.bd ?_ | (with_reducible refine One.i ?_ ?_; · ((try simp (disch := omega) only [w32i, Int.toNat_natCast]) <;> omega)) | (with_reducible refine One.e ?_ ?_; · ((try simp (disch := omega) only [w32i, Int.toNat_natCast]) <;> omega))))
    exact One.ret ⟨fun q hq => h1 q (by omega), h2⟩
  | succ k ih =>
    intro m d p hp hm h1 h2
    obtain ⟨m, rfl⟩ : ∃ m', m = m' + 1 := ⟨m - 1, by omega⟩
    show One (d_x8_laysBack_65 N (d_x8_laysBack_65L N m) d p) _
    unfold d_x8_laysBack_65
    (repeat (first | with_reducible refine One.bd ?_ | (with_reducible refine One.i ?_ ?_; · ((try simp (disch := omega) only [w32i, Int.toNat_natCast]) <;> omega)) | (with_reducible refine One.e ?_ ?_; · ((try simp (disch := omega) only [w32i, Int.toNat_natCast]) <;> omega))))
    rw [w32i (x := (p : Int)) (by omega) (by omega), Int.toNat_natCast]
    refine ih m _ (p + 1) (by omega) (by omega) (fun q hq => ?_) (fun a k z => ?_)
    · by_cases e : q = p
      · subst e
        simp (disch := omega) only [up_ne, up_same]
        exact ⟨h2 _ _ (by omega), h2 _ _ (by omega), h2 _ _ (by omega)⟩
      · simp (disch := omega) only [up_ne, up_nj]
        exact h1 q (by omega)
    · simp (disch := omega) only [up_ne]
      exact h2 a k z
theorem e_bk2 {N : Nat} (hN : 20000 ≤ N) (r : St) : ∀ (k m : Nat) (d : St) (p : Nat), p + k = 192 → k < m → (∀ q, q < p → d 86 q = r 103 q ∧ d 87 q = r 104 q ∧ d 89 q = r 105 q ∧ d 90 q = r 106 q) → (∀ a k, ¬ (86 ≤ a ∧ a ≤ 90 ∧ a ≠ 88) → d a k = r a k) → One (d_x8_laysBack_2L N m d (p : Int)) (fun r' _ => (∀ q, q < 192 → r' 86 q = r 103 q ∧ r' 87 q = r 104 q ∧ r' 89 q = r 105 q ∧ r' 90 q = r 106 q) ∧ (∀ q, q < 12288 → r' 91 q = r 107 q ∧ r' 92 q = r 108 q ∧ r' 93 q = r 109 q) ∧ ∀ a k, ¬ (86 ≤ a ∧ a ≤ 93 ∧ a ≠ 88) → r' a k = r a k) := by
  intro k
  induction k with
  | zero =>
    intro m d p hp hm h1 h2
    obtain ⟨m, rfl⟩ : ∃ m', m = m' + 1 := ⟨m - 1, by omega⟩
    show One (d_x8_laysBack_2 N (d_x8_laysBack_2L N m) d p) _
    unfold d_x8_laysBack_2
    (repeat (first | with_reducible refine One.bd ?_ | (with_reducible refine One.i ?_ ?_; · ((try simp (disch := omega) only [w32i, Int.toNat_natCast]) <;> omega)) | (with_reducible refine One.e ?_ ?_; · ((try simp (disch := omega) only [w32i, Int.toNat_natCast]) <;> omega))))
    refine One.mono (e_bk65 d 12288 N d 0 (by omega) (by omega) (fun q hq => by omega) (fun _ _ _ => rfl)) (fun r' v q => ⟨fun j hj => ?_, fun j hj => ?_, fun a k z => ?_⟩)
    · rw [q.2 86 j (by omega), q.2 87 j (by omega), q.2 89 j (by omega), q.2 90 j (by omega)]
      exact h1 j (by omega)
    · have := q.1 j hj
      rw [h2 107 j (by omega), h2 108 j (by omega), h2 109 j (by omega)] at this
      exact this
    · rw [q.2 a k (by omega)]
      exact h2 a k (by omega)
  | succ k ih =>
    intro m d p hp hm h1 h2
    obtain ⟨m, rfl⟩ : ∃ m', m = m' + 1 := ⟨m - 1, by omega⟩
    show One (d_x8_laysBack_2 N (d_x8_laysBack_2L N m) d p) _
    unfold d_x8_laysBack_2
    (repeat (first | with_reducible refine One.bd ?_ | (with_reducible refine One.i ?_ ?_; · ((try simp (disch := omega) only [w32i, Int.toNat_natCast]) <;> omega)) | (with_reducible refine One.e ?_ ?_; · ((try simp (disch := omega) only [w32i, Int.toNat_natCast]) <;> omega))))
    rw [w32i (x := (p : Int)) (by omega) (by omega), Int.toNat_natCast]
    refine ih m _ (p + 1) (by omega) (by omega) (fun q hq => ?_) (fun a k z => ?_)
    · by_cases e : q = p
      · subst e
        simp (disch := omega) only [up_ne, up_same]
        exact ⟨h2 _ _ (by omega), h2 _ _ (by omega), h2 _ _ (by omega), h2 _ _ (by omega)⟩
      · simp (disch := omega) only [up_ne, up_nj]
        exact h1 q (by omega)
    · simp (disch := omega) only [up_ne]
      exact h2 a k z
theorem e_back8 {N : Nat} (hN : 20000 ≤ N) (r : St) : One (d_x8_laysBack N r) (fun r' _ => (∀ q, q < 192 → r' 86 q = r 103 q ∧ r' 87 q = r 104 q ∧ r' 89 q = r 105 q ∧ r' 90 q = r 106 q) ∧ (∀ q, q < 12288 → r' 91 q = r 107 q ∧ r' 92 q = r 108 q ∧ r' 93 q = r 109 q) ∧ ∀ a k, ¬ (86 ≤ a ∧ a ≤ 93 ∧ a ≠ 88) → r' a k = r a k) := e_bk2 hN r 192 N r 0 (by omega) (by omega) (fun q hq => by omega) (fun _ _ _ => rfl)
/-- what is told by the model is as it was -/
def RS (r r' : St) : Prop := (∀ q, q < 192 → r' 86 q = r 86 q ∧ r' 87 q = r 87 q ∧ r' 89 q = r 89 q ∧ r' 90 q = r 90 q ∧ r' 88 q = 0) ∧ ∀ q, q < 12288 → r' 91 q = r 91 q ∧ r' 92 q = r 92 q ∧ r' 93 q = r 93 q
theorem RS.er {r r' : St} (H : RS r r') : ∀ a k, 86 ≤ a → a ≤ 93 → a ≠ 88 → ((a = 91 ∨ a = 92 ∨ a = 93) → k < 12288) → (a < 91 → k < 192) → r' a k = r a k := by
  intro a k h1 h2 h3 h4 h5
  have : a = 86 ∨ a = 87 ∨ a = 89 ∨ a = 90 ∨ a = 91 ∨ a = 92 ∨ a = 93 := by omega
  rcases this with rfl | rfl | rfl | rfl | rfl | rfl | rfl
  · exact (H.1 k (h5 (by omega))).1
  · exact (H.1 k (h5 (by omega))).2.1
  · exact (H.1 k (h5 (by omega))).2.2.1
  · exact (H.1 k (h5 (by omega))).2.2.2.1
  · exact (H.2 k (h4 (by omega))).1
  · exact (H.2 k (h4 (by omega))).2.1
  · exact (H.2 k (h4 (by omega))).2.2
theorem RS.refl {t : Nat} {T c r : St} (S : TS t T c r) (I : ID t c) : RS r r := by
  refine ⟨fun q hq => ⟨rfl, rfl, rfl, rfl, ?_⟩, fun q hq => ⟨rfl, rfl, rfl⟩⟩
  have h := S.1 q hq
  unfold TP at h
  have := (I q hq).1
  omega
/-- after thinking all stands as before -/
theorem S_think {c r c' r' : St} (H : RG c r) (ec : ∀ a k, ¬ (a = 50 ∨ (38 ≤ a ∧ a ≤ 49)) → c' a k = c a k) (er : ∀ a k, ¬ (a = 77 ∨ (86 ≤ a ∧ a ≤ 93) ∨ (103 ≤ a ∧ a ≤ 109)) → r' a k = r a k) (er7 : ∀ k, k ≠ 36 → k ≠ 37 → k ≠ 38 → r' 77 k = r 77 k) (hs : RS r r') (hu : UT 38 c') (v : Int) : QG c r c' r' v := by
  have htx : tx c' r' = tx c r := tx_cong (fun a k _ _ => ec a k (by omega)) (fun a k _ _ => er a k (by omega))
  have hT := H.2.1
  have hce : CE 26 26 c c' := by
    refine ⟨ec _ _ (by omega), fun m hm => ec _ _ (by omega), fun p hp => ?_, fun k hk => by rw [ec _ _ (by omega)]; exact hT.2.1.2.2.2.2.2 k hk⟩
    unfold CD
    rw [ec _ _ (by omega), ec _ _ (by omega), ec _ _ (by omega), ec _ _ (by omega), ec _ _ (by omega), ec _ _ (by omega), ec _ _ (by omega)]
    exact ⟨rfl, rfl, rfl, (hT.2.2.2 p hp).1, rfl, rfl, rfl, fun i hi => ec _ _ (by omega), fun i hi => ⟨ec _ _ (by omega), ec _ _ (by omega)⟩⟩
  have hts := hce.ts hT.2.1 hT.2.2.1 (r' := r') hs.er (fun p hp => (hs.1 p hp).2.2.2.2) (fun p hp => (hT.2.2.2 p hp).1)
  refine ⟨⟨H.1.cong (ec _ _ (by omega)) (fun k => ec _ _ (by omega)) (er7 _ (by omega) (by omega) (by omega)) (fun k => er _ _ (by omega)), ?_, ⟨hu, H.2.2.1.2.cong (fun a k _ _ => ec _ _ (by omega))⟩, H.2.2.2.1.cong (fun a k _ _ => ec _ _ (by omega)) (ec _ _ (by omega)) (ec _ _ (by omega)) (fun a k _ _ => er _ _ (by omega)) (er7 _ (by omega) (by omega) (by omega)) (er7 _ (by omega) (by omega) (by omega)), H.2.2.2.2.1.cong (fun a k _ _ => ec _ _ (by omega)) (fun a k _ _ => er _ _ (by omega)), H.2.2.2.2.2.1.cong (ec _ _ (by omega)) (er7 _ (by omega) (by omega) (by omega)), H.2.2.2.2.2.2.cong (ec _ _ (by omega)) (er7 _ (by omega) (by omega) (by omega))⟩, fun a k _ => ec a k (by omega), fun a k _ => er a k (by omega)⟩
  unfold TT
  rw [htx]
  exact ⟨hT.1, hts.1, hts.2, hT.2.2.2.cong (fun a k _ _ => ec _ _ (by omega))⟩
/-- thinking begins with what is told -/
theorem T_begin {T c r c1 r1 : St} (W : WT T) (hc : ct c1 T) (hr : rt r1 T) (S : TS 38 T c1 r1) (M : MT 38 T c1) {lim lim' : Int} (hl : 0 ≤ lim ∧ lim ≤ 99) (hl' : lim' = lim) : TI 38 T (up (up (up c1 50 1 ((38 : Nat) : Int)) 50 2 lim) 50 3 0) (up (up r1 77 36 0) 77 37 lim') := by
  refine ⟨⟨W, (hc.up (by omega)).up (by omega) |>.up (by omega), (hr.up (by omega)).up (by omega)⟩, ?_, M.cong (fun a k _ _ => by rw [up_ne (by omega), up_ne (by omega), up_ne (by omega)]), S.cong (fun a k _ _ => by rw [up_ne (by omega), up_ne (by omega), up_ne (by omega)]) (fun a k _ _ => by rw [up_ne (by omega), up_ne (by omega)])⟩
  unfold TR
  simp (disch := omega) only [up_same, up_nj, true_and]
  omega
/-- need() -/
theorem r_need {N : Nat} (hN : 20000 ≤ N) {c r : St} {a0 a1 : Int} (h0 : r32 a0) (h1 : r32 a1) (H : RG c r) : Two (d_x7_need N c a0 a1) (d_x8_need N r a0 a1) (QG c r) := by
  have hp := H.p18
  unfold d_x7_need d_x8_need
  refine Two.cL (Rp h0 h1 (fun a ha => (hp a ha).1)) ?_
  by_cases hs : 0 ≤ a0 ∧ a0 < 8
  · refine Two.cR (S8t h0 hs) (Two.eR (by decide) ?_)
    by_cases hi : 0 ≤ a1 ∧ a1 ≤ 63
    · refine Two.cR (int h1 (by unfold r32; omega) (by unfold r32; omega) hi) (Two.eR (by decide) ?_)
      obtain ⟨s, rfl⟩ : ∃ s : Nat, a0 = s := ⟨a0.toNat, by omega⟩
      have hps := hp s (by omega)
      rw [if_pos (show (0 ≤ (s : Int) ∧ (s : Int) < 8) ∧ 0 ≤ a1 ∧ a1 ≤ 63 from ⟨hs, hi⟩), Int.toNat_natCast]
      by_cases he : c 18 s = 0
      · rw [if_pos he]
        refine Two.eL (by decide) ?_
        (repeat (first | with_reducible refine Two.bdR ?_ | (with_reducible refine Two.iR ?_ ?_; · ((try simp (disch := omega) only [w32i, Int.toNat_natCast]) <;> omega)) | (with_reducible refine Two.eR ?_ ?_; · ((try simp (disch := omega) only [w32i, Int.toNat_natCast]) <;> omega))))
        exact Two.ret rfl (QG.refl H _)
      · rw [if_neg he]
        refine Two.iL (by decide) ?_
        (repeat (first | with_reducible refine Two.bdR ?_ | (with_reducible refine Two.iR ?_ ?_; · ((try simp (disch := omega) only [w32i, Int.toNat_natCast]) <;> omega)) | (with_reducible refine Two.eR ?_ ?_; · ((try simp (disch := omega) only [w32i, Int.toNat_natCast]) <;> omega))))
        have hT := H.2.1
        refine Two.oLV (e_take (t := 38) (t2 := 26) (by omega) (by omega) H.2.2.1.1 (UT.of hT.2.2.1 hT.2.1)) (fun c1 _ qc => ?_)
        refine Two.oRV (e_aside hN r) (fun r1 _ qr => ?_)
        obtain ⟨C1, ec1⟩ := qc
        obtain ⟨a1', a2', er1⟩ := qr
        have hrs : RS r r := RS.refl hT.2.1 hT.2.2.2
        have hts := C1.ts hT.2.1 hT.2.2.1 (r' := r1) (fun a k _ _ _ _ _ => er1 a k (by omega)) (fun p hp => by rw [er1 _ _ (by omega)]; exact (hrs.1 p hp).2.2.2.2) (fun p hp => (hT.2.2.2 p hp).1)
        have TB := T_begin (c := c) (r := r) hT.1.1 (fun a k x y => (ec1 a k (by omega)).trans (tx_ct c r a k x y)) (fun a k x y => (er1 a k (by omega)).trans (tx_rt c r a k x y)) hts.1 hts.2 (lim := 99) (lim' := 99) (by omega) rfl
        refine Two.vL (s := up (up (up c1 50 1 ((38 : Nat) : Int)) 50 2 99) 50 3 0) (v := 0) rfl ?_
        refine Two.vR (s := up (up r1 77 36 0) 77 37 99) (v := 0) rfl ?_
        refine Two.call (L_out (Or.inr rfl) (by omega) TB (s := s) (by omega) (by rw [← tx_ct c r 18 s (by omega) (by omega)]; exact he) (y := a1) (by omega)) (fun c2 r2 v2 q2 => ?_)
        obtain ⟨H2, M2, F2, A2, V2⟩ := q2
        have g2 := A2.rng
        have hR := H2.R
        unfold TR at hR
        refine Two.oRV (e_back8 hN r2) (fun r3 _ q3 => ?_)
        obtain ⟨b1, b2, er3⟩ := q3
        have er2 : ∀ a k, ¬ (a = 77 ∨ (86 ≤ a ∧ a ≤ 93) ∨ (103 ≤ a ∧ a ≤ 109)) → r2 a k = r a k := fun a k z => by rw [F2.1 a k (by omega), up_ne (by omega), up_ne (by omega)]; exact er1 a k (by omega)
        have er23 : ∀ a k, 103 ≤ a → a ≤ 109 → r2 a k = r1 a k := fun a k _ _ => by rw [F2.1 a k (by omega), up_ne (by omega), up_ne (by omega)]
        have r36 : r3 77 36 = r2 77 36 := er3 _ _ (by omega)
        have fin : ∀ v, QG c r c2 r3 v := by
          intro v
          refine S_think H (fun a k z => ?_) (fun a k z => ?_) (fun k z y w => ?_) ⟨fun q hq => ?_, fun q hq => ?_⟩ (UT.of H2.T H2.S) v
          · rw [M2.1 a k (by omega), up_ne (by omega), up_ne (by omega), up_ne (by omega)]
            exact ec1 a k (by omega)
          · rw [er3 a k (by omega)]
            exact er2 a k z
          · rw [er3 _ _ (by omega), F2.2 k z w, up_nj (by omega), up_nj (by omega)]
            exact er1 _ _ (by omega)
          · have x := b1 q hq
            have y := a1' q hq
            rw [er23 _ _ (by omega) (by omega), er23 _ _ (by omega) (by omega), er23 _ _ (by omega) (by omega), er23 _ _ (by omega) (by omega), y.1, y.2.1, y.2.2.1, y.2.2.2] at x
            refine ⟨x.1, x.2.1, x.2.2.1, x.2.2.2, ?_⟩
            rw [er3 _ _ (by omega)]
            have w := H2.P hq
            unfold TP at w
            rw [w.2.2.2.2.1, (M2.2.2.2.1 q hq).2.1, up_ne (by omega), up_ne (by omega), up_ne (by omega)]
            exact (C1.2.2.1 q hq).2.2.2.1
          · have x := b2 q hq
            have y := a2' q hq
            rw [er23 _ _ (by omega) (by omega), er23 _ _ (by omega) (by omega), er23 _ _ (by omega) (by omega), y.1, y.2.1, y.2.2] at x
            exact x
        by_cases h6 : v2 = -6
        · refine Two.iL (by ((try simp (disch := omega) only [w32i, Int.toNat_natCast]) <;> omega)) (Two.iR (by ((try simp (disch := omega) only [w32i, Int.toNat_natCast]) <;> omega)) ?_)
          exact Two.ret rfl (fin _)
        · refine Two.eL (by ((try simp (disch := omega) only [w32i, Int.toNat_natCast]) <;> omega)) (Two.eR (by ((try simp (disch := omega) only [w32i, Int.toNat_natCast]) <;> omega)) ?_)
          exact Two.ret (by rw [r36]; exact hR.2.2.1) (fin _)
    · refine Two.cR (inf h1 (by unfold r32; omega) (by unfold r32; omega) hi) (Two.iR (by decide) ?_)
      rw [if_neg (show ¬ ((0 ≤ a0 ∧ a0 < 8) ∧ 0 ≤ a1 ∧ a1 ≤ 63) from fun z => hi z.2)]
      refine Two.eL (by decide) ?_
      exact Two.ret rfl (QG.refl H _)
  · refine Two.cR (S8f h0 hs) (Two.iR (by decide) ?_)
    rw [if_neg (show ¬ ((0 ≤ a0 ∧ a0 < 8) ∧ 0 ≤ a1 ∧ a1 ≤ 63) from fun z => hs z.1)]
    refine Two.eL (by decide) ?_
    exact Two.ret rfl (QG.refl H _)
end
