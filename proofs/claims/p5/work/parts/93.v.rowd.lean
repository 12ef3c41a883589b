/-! rows read: what stands in parts x .. x' - 1 -/
def sp97 (r : St) (q : Nat) : Nat := (r 97 q).toNat
def RWS (x x' : Nat) (c r : St) : Prop := ∀ p, x ≤ p → p < x' → PK c r p ∧ (0 ≤ c 4 p ∧ c 4 p ≤ 13) ∧ SPN c (sp97 r) x' p ∧ 0 ≤ r 97 p
def SMC (c : St) (x : Nat) : Int := sm (fun k => tkc (c 4 k) (c 9 k)) x
theorem SMC.cong {c c' : St} {x : Nat} (e : ∀ k, k < x → c' 4 k = c 4 k ∧ c' 9 k = c 9 k) : SMC c' x = SMC c x := sm_congr x (fun k hk => by rw [(e k hk).1, (e k hk).2])
theorem PK.cong {c r c' r' : St} {p : Nat} (H : PK c r p) (e : ∀ a, 4 ≤ a → a ≤ 9 → c' a p = c a p) (e' : ∀ i, i < 8 → c' 10 (8 * p + i) = c 10 (8 * p + i)) (f : ∀ a, 95 ≤ a → a ≤ 100 → a ≠ 97 → r' a p = r a p) (f' : ∀ i, i < 8 → r' 101 (8 * p + i) = r 101 (8 * p + i)) : PK c' r' p := by
  unfold PK at *
  rw [e 4 (by omega) (by omega), e 5 (by omega) (by omega), e 6 (by omega) (by omega), e 7 (by omega) (by omega), e 9 (by omega) (by omega), f 95 (by omega) (by omega) (by omega), f 96 (by omega) (by omega) (by omega), f 98 (by omega) (by omega) (by omega), f 99 (by omega) (by omega) (by omega), f 100 (by omega) (by omega) (by omega)]
  obtain ⟨h1, h2, h3, h4⟩ := H
  refine ⟨h1, h2, h3, fun q i hi => ?_⟩
  have k := h2
  unfold KO at k
  have m := k.2.2.2.1 q
  rw [e' i (by omega), f' i (by omega)]
  exact h4 q i hi
theorem SPN.cong {c c' : St} {sp sp' : Nat → Nat} {x n p : Nat} (H : SPN c sp n p) (hp : x ≤ p) (e : c' 4 p = c 4 p) (f : ∀ q, x ≤ q → q < n → sp' q = sp q) : SPN c' sp' n p := by
  unfold SPN at *
  obtain ⟨h1, h2, h3⟩ := H
  rw [e, f p hp (by omega)]
  refine ⟨h1, h2, ?_⟩
  rcases h3 with h | ⟨a, b, h⟩ | ⟨a, b, d, h⟩
  · exact Or.inl h
  · refine Or.inr (Or.inl ⟨a, b, ?_⟩)
    rw [f (p + 1) (by omega) b]
    exact h
  · refine Or.inr (Or.inr ⟨a, b, ?_, ?_⟩)
    · rw [f (p + 1) (by omega) b]
      exact d
    · rw [f (p + 1) (by omega) b, f _ (by omega) d]
      exact h
theorem SPN.mono {c : St} {sp : Nat → Nat} {n n' p : Nat} (H : SPN c sp n p) (h : n ≤ n') : SPN c sp n' p := by
  unfold SPN at *
  obtain ⟨h1, h2, h3⟩ := H
  refine ⟨h1, by omega, ?_⟩
  rcases h3 with h | ⟨a, b, h⟩ | ⟨a, b, d, h⟩
  · exact Or.inl h
  · exact Or.inr (Or.inl ⟨a, by omega, h⟩)
  · exact Or.inr (Or.inr ⟨a, by omega, by omega, h⟩)
theorem RWS.cong {x x' : Nat} {c r c' r' : St} (H : RWS x x' c r) (e : ∀ a k, 4 ≤ a → a ≤ 9 → x ≤ k → k < x' → c' a k = c a k) (e' : ∀ k, 8 * x ≤ k → k < 8 * x' → c' 10 k = c 10 k) (f : ∀ a k, 95 ≤ a → a ≤ 100 → x ≤ k → k < x' → r' a k = r a k) (f' : ∀ k, 8 * x ≤ k → k < 8 * x' → r' 101 k = r 101 k) : RWS x x' c' r' := by
  intro p h1 h2
  obtain ⟨a1, a2, a3, a4⟩ := H p h1 h2
  refine ⟨a1.cong (fun a i1 i2 => e a p i1 i2 h1 h2) (fun i hi => e' _ (by omega) (by omega)) (fun a i1 i2 _ => f a p i1 i2 h1 h2) (fun i hi => f' _ (by omega) (by omega)), by rw [e 4 p (by omega) (by omega) h1 h2]; exact a2, a3.cong h1 (e 4 p (by omega) (by omega) h1 h2) (fun q i1 i2 => ?_), by rw [f 97 p (by omega) (by omega) h1 h2]; exact a4⟩
  unfold sp97
  rw [f 97 q (by omega) (by omega) i1 i2]
theorem RWS.join {x y w : Nat} {c r : St} (A : RWS x y c r) (B : RWS y w c r) (h : y ≤ w) : RWS x w c r := by
  intro p h1 h2
  by_cases q : p < y
  · obtain ⟨a1, a2, a3, a4⟩ := A p h1 q
    exact ⟨a1, a2, a3.mono h, a4⟩
  · exact B p (by omega) h2
/-! the class's loop over rows -/
def LL (N F : Nat) (c : St) (x y : Nat) : Option Rs := d_x2_readTape_18L N (F - x) c (x : Int) (y : Int)
def bye (c : St) : Option Rs := some (up c 1 1 0, -100 - c 1 7)
theorem e_84b {N : Nat} {c r : St} {x : Int} (B : bad c r) : d_x2_readTape_84 N c x = bye c := by
  unfold d_x2_readTape_84 bye
  have := B.2
  rw [bd_eq, up_nj (show (7 : Nat) ≠ 1 by decide), w32i (x := c 1 7) (by omega) (by omega), if_neg (by omega)]
theorem e_80b {N : Nat} {c r : St} {x : Int} (B : bad c r) : d_x2_readTape_80 N c x = bye c := by
  have h : d_x2_miss N c = some (c, 0) := by
    unfold d_x2_miss
    have := B.2
    rw [w32i (x := c 1 7) (by omega) (by omega), if_neg (by omega)]
  unfold d_x2_readTape_80
  rw [h, bV_some, e_84b B]
theorem e_64b {N : Nat} {c r : St} {b : Nat → Int} {z n j : Nat} {x y : Int} (H : RD c r b z n j) (B : bad c r) : d_x2_readTape_64 N c x y = bye c := by
  have R := H.rng
  unfold d_x2_readTape_64
  rw [H.2.2.1, w32i (x := (j : Int)) (by omega) (by omega), if_pos (show 0 ≤ (j : Int) ∧ (j : Int) < ((121 : Nat) : Int) by omega), e_80b B, e_84b B]
  split
  · rfl
  · split <;> rfl
theorem LL_bad {N F x y : Nat} (hF : 60 ≤ F) (hx : x ≤ 24) (hy : y ≤ 200) {c r : St} {b : Nat → Int} {z n j : Nat} (H : RD c r b z n j) (B : bad c r) : LL N F c x y = bye c := by
  obtain ⟨m, hm⟩ : ∃ m, F - x = m + 1 := ⟨F - x - 1, by omega⟩
  unfold LL
  rw [hm]
  show d_x2_readTape_18 N (d_x2_readTape_18L N m) c (x : Int) (y : Int) = _
  unfold d_x2_readTape_18
  have := B.2
  rw [w32i (x := c 1 7) (by omega) (by omega), if_neg (show ¬ c 1 7 = -1 by omega), e_64b H B]
  split
  · split <;> rfl
  · rfl
theorem LL_full {N F y : Nat} (hF : 60 ≤ F) (hy : y ≤ 200) {c c' : St} {v : Int} (h : d_x2_miss N c = some (c', v)) {r : St} (B : bad c' r) : LL N F c 24 (y + 1) = bye c' := by
  obtain ⟨m, hm⟩ : ∃ m, F - 24 = m + 1 := ⟨F - 24 - 1, by omega⟩
  unfold LL
  rw [hm]
  show d_x2_readTape_18 N (d_x2_readTape_18L N m) c ((24 : Nat) : Int) ((y + 1 : Nat) : Int) = _
  unfold d_x2_readTape_18 d_x2_readTape_64 d_x2_readTape_80
  rw [if_neg (by decide), w32i (x := ((y + 1 : Nat) : Int)) (by omega) (by omega), if_pos (by omega), h, bV_some, e_84b B]
theorem LL_step {N F x y : Nat} (hF : 60 ≤ F) (hx : x < 24) (hy : y ≤ 200) {c c1 : St} {k : Int} (h7 : c 1 7 = -1) (h : d_x2_readPart N c (x : Int) = some (c1, 0)) (h4 : c1 4 x = k) (hk : 0 ≤ k ∧ k ≤ 13) (y' : Nat) (hy' : (y' : Int) = y + nro k) : LL N F c x (y + 1) = LL N F c1 (x + 1) y' := by
  obtain ⟨m, hm⟩ : ∃ m, F - x = m + 1 := ⟨F - x - 1, by omega⟩
  have hm' : F - (x + 1) = m := by omega
  have e1 : ((y + 1 : Nat) : Int) + (nro k - 1) = (y' : Int) := by omega
  have e2 : (x : Int) + 1 = ((x + 1 : Nat) : Int) := by omega
  unfold LL
  rw [hm, hm']
  show d_x2_readTape_18 N (d_x2_readTape_18L N m) c (x : Int) ((y + 1 : Nat) : Int) = _
  unfold d_x2_readTape_18
  rw [w32i (x := (x : Int)) (by omega) (by omega), if_pos (by omega), w32i (x := ((y + 1 : Nat) : Int)) (by omega) (by omega), if_pos (by omega), h7, if_pos (by decide), h, bV_some, if_pos (by omega), Int.toNat_natCast, h4, e_rows hk, bI_some, bd_eq, bd_eq, e1, e2]
