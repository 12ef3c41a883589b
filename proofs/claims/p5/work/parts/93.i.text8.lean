/-- the class's table of TOKENS -/
def TB (c : St) (b : Nat → Int) (z n : Nat) : Prop := (∀ i, i < n → bgf b z i < z ∧ c 12 i = (bgf b z i : Nat) ∧ c 13 i = srt b (bgf b z i) (te b z (bgf b z i)) ∧ c 14 i = mng b (bgf b z i) (te b z (bgf b z i))) ∧ bgf b z n = z ∧ n ≤ z ∧ c 12 n = (z : Nat) ∧ c 13 n = 0 ∧ c 14 n = 0 ∧ ∀ i, i < z → c 11 i = b i
theorem TB.cong {c c' : St} {b : Nat → Int} {z n : Nat} (H : TB c b z n) (e : ∀ a k, 11 ≤ a → a ≤ 14 → c' a k = c a k) : TB c' b z n := by
  have e1 := fun k => e 11 k (by omega) (by omega)
  have e2 := fun k => e 12 k (by omega) (by omega)
  have e3 := fun k => e 13 k (by omega) (by omega)
  have e4 := fun k => e 14 k (by omega) (by omega)
  unfold TB at *
  simp only [e1, e2, e3, e4]
  exact H
def gd (c r : St) (b : Nat → Int) (z j : Nat) : Prop := c 1 7 = -1 ∧ r 77 24 = 0 ∧ TKM r b z j
def bad (c r : St) : Prop := c 1 7 = r 77 25 ∧ 0 ≤ c 1 7 ∧ c 1 7 ≤ 120 ∧ r 77 24 = 1
/-- both stand at TOKEN j -/
def RD (c r : St) (b : Nat → Int) (z n j : Nat) : Prop := TB c b z n ∧ MB r b z ∧ c 1 6 = (j : Nat) ∧ j ≤ n
def FC (c c' : St) : Prop := ∀ a k, ¬ (a = 1 ∧ (k = 6 ∨ k = 7)) → c' a k = c a k
def FM (r r' : St) : Prop := ∀ x k, ¬ (x = 77 ∧ 20 ≤ k ∧ k ≤ 25) → r' x k = r x k
theorem FC.refl {c : St} : FC c c := fun _ _ _ => rfl
theorem FM.refl {r : St} : FM r r := fun _ _ _ => rfl
theorem FC.trans {a b c : St} (h : FC a b) (g : FC b c) : FC a c := fun x k z => (g x k z).trans (h x k z)
theorem FM.trans {a b c : St} (h : FM a b) (g : FM b c) : FM a c := fun x k z => (g x k z).trans (h x k z)
theorem NF.fm {r r' : St} (h : NF r r') : FM r r' := fun x k z => h x k (by omega)
theorem dv_r {b : Nat → Int} {a : Nat} : ∀ n, (∀ l, l < n → 48 ≤ b (a + l) ∧ b (a + l) ≤ 57) → 0 ≤ dv b a n ∧ dv b a n < ((10 ^ n : Nat) : Int) := by
  intro n
  induction n with
  | zero => intro _; exact ⟨show (0 : Int) ≤ 0 by decide, show (0 : Int) < ((10 ^ 0 : Nat) : Int) by decide⟩
  | succ n ih =>
    intro h
    have i := ih (fun l hl => h l (by omega))
    have g := h n (by omega)
    have e : dv b a (n + 1) = dv b a n * 10 + b (a + n) - 48 := rfl
    have p : 10 ^ (n + 1) = 10 ^ n * 10 := Nat.pow_succ ..
    rw [e, p]
    omega
theorem mng_r {b : Nat → Int} {z a : Nat} (ha : a < z) (hb : ∀ i, i < z → 0 ≤ b i ∧ b i ≤ 255) : -1 ≤ mng b a (te b z a) ∧ mng b a (te b z a) ≤ 9999 ∧ (srt b a (te b z a) = 2 → 0 ≤ mng b a (te b z a)) := by
  have t := te_le (b := b) ha
  have g := hb a ha
  unfold mng
  by_cases h1 : srt b a (te b z a) = 1
  · rw [if_pos h1, h1]
    have := fk_r (b := b) (a := a) (n := te b z a - a) 13 1
    unfold kd
    split
    · split <;> omega
    · omega
  · rw [if_neg h1]
    by_cases h2 : srt b a (te b z a) = 2
    · rw [if_pos h2]
      have h2' := h2
      unfold srt at h2'
      have hs : so (b a) = 2 ∧ ¬ 4 < te b z a - a := by
        by_cases q : so (b a) = 2 ∧ 4 < te b z a - a
        · rw [if_pos q] at h2'
          omega
        · rw [if_neg q] at h2'
          exact ⟨h2', fun y => q ⟨h2', y⟩⟩
      have d := dv_r (b := b) (a := a) (te b z a - a) (fun l hl => so_2.mp ((te_all (z := z) (Or.inr hs.1) (by omega) (by omega)).trans hs.1))
      have : (10 ^ (te b z a - a) : Nat) ≤ 10 ^ 4 := Nat.pow_le_pow_right (by decide) (by omega)
      omega
    · rw [if_neg h2]
      omega
/-- what stands at TOKEN j, on both sides -/
theorem RD.sort {c r : St} {b : Nat → Int} {z n j : Nat} (H : RD c r b z n j) (G : gd c r b z j) : 0 ≤ c 13 j ∧ c 13 j ≤ 5 ∧ -1 ≤ c 14 j ∧ c 14 j ≤ 9999 ∧ j ≤ 120 ∧ (c 13 j = 2 → 0 ≤ c 14 j) ∧ (c 13 j = 2 ↔ r 77 21 = 2) ∧ (c 13 j = 3 ↔ r 77 21 = 3) ∧ (r 77 21 = 0 ↔ c 13 j = 0) ∧ (c 13 j = 2 ∨ c 13 j = 3 → r 77 23 = c 14 j) ∧ (r 77 21 = 1 ↔ c 13 j = 1 ∧ c 14 j ≠ -1) ∧ c 12 j = r 77 22 ∧ 0 ≤ r 77 22 ∧ r 77 22 ≤ 120 ∧ 0 ≤ r 77 21 ∧ r 77 21 ≤ 5 ∧ (c 13 j ≠ 0 → j < n) := by
  obtain ⟨T, M, h6, hj⟩ := H
  obtain ⟨t1, t2, t3, t4, t5, t6, t7⟩ := T
  have hz := M.2.1
  obtain ⟨k1, k2, k3⟩ := G.2.2
  by_cases e : j = n
  · subst e
    rw [t2] at k1
    have := k2 t2
    omega
  · have t := t1 j (by omega)
    have k := k3 t.1
    have ms := mng_r t.1 (fun i hi => (M.2.2 i hi).2)
    have sr := so_r (b (bgf b z j))
    have hs : 1 ≤ srt b (bgf b z j) (te b z (bgf b z j)) ∧ srt b (bgf b z j) (te b z (bgf b z j)) ≤ 5 := by
      unfold srt
      split <;> omega
    have hm1 : srt b (bgf b z j) (te b z (bgf b z j)) = 1 → mng b (bgf b z j) (te b z (bgf b z j)) = kd b (bgf b z j) (te b z (bgf b z j) - bgf b z j) := fun q => by
      unfold mng
      rw [if_pos q]
    have hk := k.1
    have kw3 := k.2.2
    unfold tkm at hk
    rw [t.2.1, t.2.2.1, t.2.2.2, k1]
    generalize srt b (bgf b z j) (te b z (bgf b z j)) = S at *
    generalize mng b (bgf b z j) (te b z (bgf b z j)) = X at *
    generalize kd b (bgf b z j) (te b z (bgf b z j) - bgf b z j) = K at *
    have hb := t.1
    by_cases q : S = 1 ∧ K = -1
    · rw [if_pos q] at hk
      have := hm1 q.1
      refine ⟨by omega, by omega, by omega, by omega, by omega, by omega, by omega, by omega, by omega, by omega, by omega, rfl, by omega, by omega, by omega, by omega, fun _ => by omega⟩
    · rw [if_neg q] at hk
      refine ⟨by omega, by omega, by omega, by omega, by omega, by omega, by omega, by omega, by omega, fun y => kw3 (by omega), ?_, rfl, by omega, by omega, by omega, by omega, fun _ => by omega⟩
      constructor
      · intro y
        have := hm1 (by omega)
        refine ⟨by omega, fun w => q ⟨by omega, by omega⟩⟩
      · intro y
        omega
/-- one TOKEN on -/
theorem RD.adv {N : Nat} (hN : 500 ≤ N) {c r : St} {b : Nat → Int} {z n j : Nat} (H : RD c r b z n j) (G : gd c r b z j) (h0 : r 77 21 ≠ 0) (h4 : r 77 21 ≠ 4) : One (d_x8_next N r) (fun r' _ => RD (up c 1 6 ((j : Int) + 1)) r' b z n (j + 1) ∧ gd (up c 1 6 ((j : Int) + 1)) r' b z (j + 1) ∧ NF r r') := by
  have S := H.sort G
  have hz := H.2.1.2.1
  have hlt : bgf b z j < z := by
    by_cases q : bgf b z j < z
    · exact q
    · exact absurd (G.2.2.2.1 (by have := bgf_le (b := b) (z := z) j; omega)) h0
  have hjn : j < n := by
    by_cases q : j < n
    · exact q
    · have : j = n := by have := H.2.2.2; omega
      rw [this, H.1.2.1] at hlt
      exact absurd hlt (Nat.lt_irrefl _)
  have t := te_le (b := b) hlt
  have k := G.2.2.2.2 hlt
  have nx : bgf b z (j + 1) = rn b z 5 (te b z (bgf b z j)) := by
    show (if bgf b z j < z then rn b z 5 (te b z (bgf b z j)) else z) = _
    rw [if_pos hlt]
  unfold d_x8_next
  refine (m_next hN (j := j + 1) (z - te b z (bgf b z j)) N (te b z (bgf b z j)) r (by omega) (by omega) H.2.1 (k.2.1 h4) nx.symm).mono (fun r' v w => ⟨⟨H.1.cong (fun a x _ _ => up_ne (by omega)), H.2.1.nf w.2, by rw [up_same]; omega, by omega⟩, ⟨by rw [up_nj (by decide)]; exact G.1, by rw [w.2 77 24 (by omega)]; exact G.2.1, w.1⟩, w.2⟩)
/-- both miss -/
theorem RD.miss {N : Nat} {c r : St} {b : Nat → Int} {z n j : Nat} (H : RD c r b z n j) (G : gd c r b z j ∨ bad c r) : ∃ c' r' v w, d_x2_miss N c = some (c', v) ∧ d_x8_fail N r = some (r', w) ∧ RD c' r' b z n j ∧ bad c' r' ∧ FC c c' ∧ FM r r' := by
  unfold d_x2_miss d_x8_fail
  rcases G with G | G
  · have S := H.sort G
    have hj := H.2.2.1
    rw [G.1, if_pos (by decide), hj, w32i (x := (j : Int)) (by omega) (by omega), if_pos (by omega), bd_eq, Int.toNat_natCast, G.2.1, if_pos (by decide), bd_eq, bd_eq]
    refine ⟨_, _, _, _, rfl, rfl, ⟨H.1.cong (fun a k _ _ => up_ne (by omega)), H.2.1.cong (by rw [up_nj (by decide), up_nj (by decide)]) (fun k => by rw [up_ne (by decide), up_ne (by decide)]), by rw [up_nj (by decide)]; exact hj, H.2.2.2⟩, ⟨?_, ?_, ?_, ?_⟩, fun a k h => up_o (by omega), fun x k h => by rw [up_o (by omega), up_o (by omega)]⟩
    · rw [up_same, up_same, up_nj (by decide)]
      omega
    · rw [up_same]
      omega
    · rw [up_same]
      omega
    · rw [up_nj (by decide), up_same]
  · rw [w32i (x := c 1 7) (by have := G.2; omega) (by have := G.2; omega), if_neg (by have := G.2; omega), G.2.2.2, if_neg (by decide)]
    exact ⟨c, r, 0, 0, rfl, rfl, H, G, FC.refl, FM.refl⟩
