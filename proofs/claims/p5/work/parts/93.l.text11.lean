def FC2 (x : Nat) (c c' : St) : Prop := ∀ a k, ¬ (a = 1 ∧ (k = 6 ∨ k = 7)) → ¬ (a = 9 ∧ k = x) → ¬ (a = 10 ∧ 8 * x ≤ k ∧ k < 8 * x + 8) → c' a k = c a k
def FM2 (x : Nat) (r r' : St) : Prop := ∀ y k, ¬ (y = 77 ∧ 20 ≤ k ∧ k ≤ 25) → ¬ (y = 100 ∧ k = x) → ¬ (y = 101 ∧ 8 * x ≤ k ∧ k < 8 * x + 8) → r' y k = r y k
theorem FC2.trans {x : Nat} {a b c : St} (h : FC2 x a b) (g : FC2 x b c) : FC2 x a c := fun y k p q s => (g y k p q s).trans (h y k p q s)
theorem FM2.trans {x : Nat} {a b c : St} (h : FM2 x a b) (g : FM2 x b c) : FM2 x a c := fun y k p q s => (g y k p q s).trans (h y k p q s)
theorem FC.w {x : Nat} {a b : St} (h : FC a b) : FC2 x a b := fun y k p _ _ => h y k p
theorem FM.w {x : Nat} {a b : St} (h : FM a b) : FM2 x a b := fun y k p _ _ => h y k p
theorem RD.cong {c r c' r' : St} {b : Nat → Int} {z n j : Nat} (H : RD c r b z n j) (e : ∀ a k, a = 1 ∨ (11 ≤ a ∧ a ≤ 14) → c' a k = c a k) (f : ∀ y k, y = 77 ∨ y = 94 → r' y k = r y k) : RD c' r' b z n j := ⟨H.1.cong (fun a k _ _ => e a k (by omega)), H.2.1.cong (f _ _ (by omega)) (fun k => f _ _ (by omega)), (e 1 6 (by omega)).trans H.2.2.1, H.2.2.2⟩
theorem gd.cong {c r c' r' : St} {b : Nat → Int} {z j : Nat} (G : gd c r b z j) (e : ∀ k, c' 1 k = c 1 k) (f : ∀ k, r' 77 k = r 77 k) : gd c' r' b z j := by
  unfold gd TKM at *
  simp only [e, f]
  exact G
theorem bad.cong {c r c' r' : St} (B : bad c r) (e : ∀ k, c' 1 k = c 1 k) (f : ∀ k, r' 77 k = r 77 k) : bad c' r' := by
  unfold bad at *
  rw [e, f, f]
  exact B
/-- the first k numbers of a list -/
def ENT (x k : Nat) (c r : St) : Prop := ∀ i, i < k → c 10 (8 * x + i) = r 101 (8 * x + i) ∧ -9999 ≤ c 10 (8 * x + i) ∧ c 10 (8 * x + i) ≤ 9999
def QL (x : Nat) (c r : St) (b : Nat → Int) (z n j k0 : Nat) (c' r' : St) (_ _ : Int) : Prop := ∃ j', j ≤ j' ∧ RD c' r' b z n j' ∧ FC2 x c c' ∧ FM2 x r r' ∧ ((gd c' r' b z j' ∧ ∃ k : Nat, k0 ≤ k ∧ k ≤ 8 ∧ c' 9 x = k ∧ r' 100 x = k ∧ ENT x k c' r' ∧ j + 2 * k ≤ j' + 2 * k0) ∨ bad c' r')
/-- the class behind a number of a list -/
def CL (N m x k : Nat) (c : St) : Option Rs := bI (d_x2_isSign N c 44) fun s8 v9 => (if (w32 v9) = 0 then d_x2_readNums_4L N m s8 (x : Int) (k : Int) v9 else (if (w32 (k : Int)) < 8 then bd (up s8 1 6 ((s8 1 6) + 1)) fun s10 => d_x2_readNums_4L N m s10 (x : Int) (k : Int) v9 else d_x2_readNums_4L N m s8 (x : Int) (k : Int) v9))
theorem e_74 {N x k : Nat} (hx : x < 24) {c : St} : d_x2_readNums_74 N c (x : Int) (k : Int) 0 = some (up c 9 x (k : Int), 0) := by
  unfold d_x2_readNums_74
  rw [w32i (x := (x : Int)) (by omega) (by omega), if_pos (by omega), bd_eq, if_pos w32_0, Int.toNat_natCast]
theorem e_74m {N x k : Nat} (hx : x < 24) {c r : St} {b : Nat → Int} {z n j : Nat} (H : RD c r b z n j) (G : gd c r b z j ∨ bad c r) : ∃ c' r' v w, d_x2_readNums_74 N c (x : Int) (k : Int) 1 = some (c', 0) ∧ d_x8_fail N r = some (r', w) ∧ RD c' r' b z n j ∧ bad c' r' ∧ FC2 x c c' ∧ FM r r' ∧ v = (0 : Int) := by
  have H2 : RD (up c 9 x (k : Int)) r b z n j := H.cong (fun a k h => up_ne (by omega)) (fun _ _ _ => rfl)
  have G2 : gd (up c 9 x (k : Int)) r b z j ∨ bad (up c 9 x (k : Int)) r := by
    rcases G with G | G
    · exact Or.inl (G.cong (fun k => up_ne (by decide)) (fun _ => rfl))
    · exact Or.inr (G.cong (fun k => up_ne (by decide)) (fun _ => rfl))
  obtain ⟨c', r', v, w, e1, e2, e3, e4, e5, e6⟩ := H2.miss (N := N) G2
  unfold d_x2_readNums_74
  rw [w32i (x := (x : Int)) (by omega) (by omega), if_pos (by omega), bd_eq, w32_1, if_neg (by decide), Int.toNat_natCast, e1, bV_some]
  exact ⟨c', r', 0, w, rfl, e2, e3, e4, FC2.trans (fun a q p1 p2 p3 => up_o (by omega)) e5.w, e6, rfl⟩
theorem fail_bad {N : Nat} {c r : St} (B : bad c r) {r' : St} {w : Int} (h : d_x8_fail N r = some (r', w)) : r' = r := by
  unfold d_x8_fail at h
  rw [B.2.2.2, if_neg (by decide)] at h
  exact (congrArg (fun z => (z.getD (r, 0)).1) h).symm
/-- a list that went wrong ends -/
theorem CL_bad {N m x k : Nat} (hm : 2 ≤ m) (hx : x < 24) (hk : k ≤ 8) {c r : St} {b : Nat → Int} {z n j : Nat} (H : RD c r b z n j) (B : bad c r) : ∃ c' j', CL N m x k c = some (c', 0) ∧ j ≤ j' ∧ RD c' r b z n j' ∧ bad c' r ∧ FC2 x c c' := by
  obtain ⟨m, rfl⟩ : ∃ m', m = m' + 1 := ⟨m - 1, by omega⟩
  have R := H.rng
  have hb := B.2
  have stop : ∀ (s : St) (jj : Nat), RD s r b z n jj → bad s r → ∃ c', d_x2_readNums_4L N (m + 1) s (x : Int) (k : Int) 1 = some (c', 0) ∧ RD c' r b z n jj ∧ bad c' r ∧ FC2 x s c' := by
    intro s jj Hs Bs
    obtain ⟨c', r', v, w, e1, e2, e3, e4, e5, e6, _⟩ := e_74m (N := N) (k := k) hx Hs (Or.inr Bs)
    have := fail_bad Bs e2
    subst this
    refine ⟨c', ?_, e3, e4, e5⟩
    show d_x2_readNums_4 N (d_x2_readNums_4L N m) s (x : Int) (k : Int) 1 = _
    unfold d_x2_readNums_4
    have hs := Bs.2
    rw [w32_1, if_neg (by decide), w32i (x := (k : Int)) (by omega) (by omega), w32i (x := s 1 7) (by omega) (by omega), if_neg (show ¬ s 1 7 = -1 by omega), e1]
    split <;> rfl
  unfold CL
  rw [e_sgn H (by unfold r32; omega), bI_some]
  by_cases q : c 13 j = 3 ∧ c 14 j = 44
  · rw [if_pos q, w32_1, if_neg (by decide), w32i (x := (k : Int)) (by omega) (by omega)]
    have hjn : j < n := by
      by_cases y : j < n
      · exact y
      · have e : j = n := by have := H.2.2.2; omega
        have := H.1.2.2.2.2.1
        rw [← e] at this
        omega
    by_cases h8 : (k : Int) < 8
    · rw [if_pos h8, bd_eq]
      have H2 : RD (up c 1 6 (c 1 6 + 1)) r b z n (j + 1) := ⟨H.1.cong (fun a k _ _ => up_ne (by omega)), H.2.1, by rw [up_same, H.2.2.1]; omega, by omega⟩
      have B2 : bad (up c 1 6 (c 1 6 + 1)) r := by
        unfold bad
        rw [up_nj (by decide)]
        exact B
      obtain ⟨c', e1, e2, e3, e4⟩ := stop _ (j + 1) H2 B2
      exact ⟨c', j + 1, e1, by omega, e2, e3, FC2.trans (fun a q p1 p2 p3 => up_o (by omega)) e4⟩
    · rw [if_neg h8]
      obtain ⟨c', e1, e2, e3, e4⟩ := stop c j H B
      exact ⟨c', j, e1, Nat.le_refl _, e2, e3, e4⟩
  · rw [if_neg q, if_pos w32_0]
    refine ⟨up c 9 x (k : Int), j, ?_, Nat.le_refl _, H.cong (fun a k h => up_ne (by omega)) (fun _ _ _ => rfl), B.cong (fun k => up_ne (by decide)) (fun _ => rfl), fun a q p1 p2 p3 => up_o (by omega)⟩
    show d_x2_readNums_4 N (d_x2_readNums_4L N m) c (x : Int) (k : Int) 0 = _
    unfold d_x2_readNums_4
    rw [if_pos w32_0, e_74 hx]
