def Rd (A B : Option Rs) (Q : St → St → Int → Int → Prop) : Prop := ∃ c r v w, A = some (c, v) ∧ B = some (r, w) ∧ Q c r v w
/-- read from TOKEN j on, lo TOKENS at least, an answer within R -/
def QR (c r : St) (b : Nat → Int) (z n j lo : Nat) (R : Int → Prop) (c' r' : St) (v w : Int) : Prop := ∃ j', j ≤ j' ∧ RD c' r' b z n j' ∧ FC c c' ∧ FM r r' ∧ ((gd c' r' b z j' ∧ j + lo ≤ j' ∧ w = v ∧ R v) ∨ bad c' r')
theorem RD.rng {c r : St} {b : Nat → Int} {z n j : Nat} (H : RD c r b z n j) : 0 ≤ c 13 j ∧ c 13 j ≤ 5 ∧ -1 ≤ c 14 j ∧ c 14 j ≤ 9999 ∧ j ≤ 120 := by
  obtain ⟨⟨t1, t2, t3, t4, t5, t6, t7⟩, M, h6, hj⟩ := H
  have hz := M.2.1
  by_cases e : j = n
  · subst e
    omega
  · have t := t1 j (by omega)
    have ms := mng_r t.1 (fun i hi => (M.2.2 i hi).2)
    have sr := so_r (b (bgf b z j))
    have hs : 1 ≤ srt b (bgf b z j) (te b z (bgf b z j)) ∧ srt b (bgf b z j) (te b z (bgf b z j)) ≤ 5 := by
      unfold srt
      split <;> omega
    omega
theorem e_sgn {N : Nat} {c r : St} {b : Nat → Int} {z n j : Nat} {x : Int} (H : RD c r b z n j) (hx : r32 x) : d_x2_isSign N c x = some (c, if c 13 j = 3 ∧ c 14 j = x then 1 else 0) := by
  have R := H.rng
  have hj := H.2.2.1
  unfold d_x2_isSign
  rw [hj, w32i (x := (j : Int)) (by omega) (by omega), if_pos (by omega), Int.toNat_natCast, w32i (x := c 13 j) (by omega) (by omega), w32i (x := c 14 j) (by omega) (by omega), w32r hx]
  by_cases h3 : c 13 j = 3
  · rw [if_pos h3, if_pos (by omega)]
    by_cases h4 : c 14 j = x
    · rw [if_pos h4, if_pos ⟨h3, h4⟩]
    · rw [if_neg h4, if_neg (fun q => h4 q.2)]
  · rw [if_neg h3, if_neg (fun q => h3 q.1)]
theorem m_sgn {N : Nat} {c r : St} {b : Nat → Int} {z n j : Nat} {x : Int} (H : RD c r b z n j) (G : gd c r b z j) (hx : r32 x) : d_x8_isSign N r x = some (r, if c 13 j = 3 ∧ c 14 j = x then 1 else 0) := by
  have S := H.sort G
  unfold d_x8_isSign
  rw [G.2.1, if_pos w32_0, w32i (x := r 77 21) (by omega) (by omega)]
  by_cases h3 : c 13 j = 3
  · have e23 : r 77 23 = c 14 j := S.2.2.2.2.2.2.2.2.2.1 (Or.inr h3)
    rw [if_pos (by omega), e23, w32i (x := c 14 j) (by omega) (by omega), w32r hx]
    by_cases h4 : c 14 j = x
    · rw [if_pos h4, if_pos ⟨h3, h4⟩]
    · rw [if_neg h4, if_neg (fun q => h4 q.2)]
  · rw [if_neg (by omega), if_neg (fun q => h3 q.1)]
theorem m_sgb0 {N : Nat} {c r : St} {x : Int} (B : bad c r) : d_x8_isSign N r x = some (r, 0) := by
  unfold d_x8_isSign
  rw [B.2.2.2, if_neg (by decide)]
theorem r_numb {N : Nat} (hN : 500 ≤ N) {c r : St} {b : Nat → Int} {z n j : Nat} {lo hi : Int} (H : RD c r b z n j) (G : gd c r b z j) (h0 : 0 ≤ lo ∧ lo ≤ 9999) (h1 : 0 ≤ hi ∧ hi ≤ 9999) : Rd (d_x2_readNumber N c lo hi) (d_x8_plain N r lo hi) (QR c r b z n j 1 (fun v => lo ≤ v ∧ v ≤ hi)) := by
  have S := H.sort G
  have hj := H.2.2.1
  have ms : Rd (d_x2_readNumber_33 N c lo) (d_x8_plain_30 N r) (QR c r b z n j 1 (fun v => lo ≤ v ∧ v ≤ hi)) := by
    obtain ⟨c', r', v, w, e1, e2, e3, e4, e5, e6⟩ := H.miss (N := N) (Or.inl G)
    unfold d_x2_readNumber_33 d_x8_plain_30
    rw [e1, e2, bV_some, bV_some]
    exact ⟨c', r', _, _, rfl, rfl, j, Nat.le_refl _, e3, e5, e6, Or.inr e4⟩
  unfold d_x2_readNumber d_x8_plain
  rw [hj, w32i (x := (j : Int)) (by omega) (by omega), if_pos (by omega), bd_eq, if_pos (by omega), Int.toNat_natCast, w32i (x := c 13 j) (by omega) (by omega), w32i (x := c 14 j) (by omega) (by omega), w32i (x := lo) (by omega) (by omega), w32i (x := hi) (by omega) (by omega), G.2.1, if_pos w32_0, w32i (x := r 77 21) (by omega) (by omega)]
  by_cases h2 : c 13 j = 2
  · have e23 : r 77 23 = c 14 j := S.2.2.2.2.2.2.2.2.2.1 (Or.inl h2)
    rw [if_pos h2, if_pos (show r 77 21 = 2 by omega), e23, w32i (x := c 14 j) (by omega) (by omega), e_in32 N r (show r32 (c 14 j) by unfold r32; omega) (show r32 lo by unfold r32; omega) (show r32 hi by unfold r32; omega), bI_some]
    by_cases hr : lo ≤ c 14 j ∧ c 14 j ≤ hi
    · obtain ⟨r', v, e1, e2, e3, e4⟩ := H.adv hN G (by omega) (by omega)
      rw [if_neg (show ¬ c 14 j < lo by omega), if_neg (show ¬ hi < c 14 j by omega), bd_eq, if_pos hr, if_neg (by decide), bd_eq, e1, bV_some, e23, w32i (x := c 14 j) (by omega) (by omega)]
      exact ⟨_, _, _, _, rfl, rfl, j + 1, by omega, e2, fun a k h => up_o (by omega), e4.fm, Or.inl ⟨e3, Nat.le_refl _, rfl, hr⟩⟩
    · rw [if_neg hr, if_pos w32_0]
      by_cases hl : c 14 j < lo
      · rw [if_pos hl]
        exact ms
      · rw [if_neg hl, if_pos (show hi < c 14 j by omega)]
        exact ms
  · rw [if_neg h2, if_neg (show ¬ r 77 21 = 2 by omega)]
    exact ms
theorem r_num {N : Nat} (hN : 500 ≤ N) {c r : St} {b : Nat → Int} {z n j : Nat} (H : RD c r b z n j) (G : gd c r b z j) : Rd (d_x2_readNum N c) (d_x8_num N r) (QR c r b z n j 1 (fun v => -9999 ≤ v ∧ v ≤ 9999)) := by
  have S := H.sort G
  have hj := H.2.2.1
  unfold d_x2_readNum d_x8_num
  rw [e_sgn H (by unfold r32; omega), m_sgn H G (by unfold r32; omega), bI_some, bI_some]
  by_cases q : c 13 j = 3 ∧ c 14 j = 45
  · obtain ⟨r', v, e1, e2, e3, e4⟩ := H.adv hN G (by omega) (by omega)
    rw [if_pos q, w32_1, if_neg (by decide), if_neg (by decide), bd_eq, hj, e1, bV_some]
    unfold d_x2_readNum_21 d_x8_num_15
    obtain ⟨c2, r2, v2, w2, f1, f2, j', f3, f4, f5, f6, f7⟩ := r_numb hN e2 e3 (lo := 0) (hi := 9999) (by decide) (by decide)
    rw [f1, bI_some, w32_1, if_neg (by decide), if_neg (by decide), f2, bI_some]
    refine ⟨_, _, _, _, rfl, rfl, j', by omega, f4, FC.trans (fun a k h => up_o (by omega)) f5, FM.trans e4.fm f6, ?_⟩
    rcases f7 with f7 | f7
    · refine Or.inl ⟨f7.1, by have := f7.2.1; omega, by rw [f7.2.2.1], ?_⟩
      have := f7.2.2.2
      omega
    · exact Or.inr f7
  · rw [if_neg q, w32_0, if_pos rfl, if_pos rfl]
    unfold d_x2_readNum_21 d_x8_num_15
    obtain ⟨c2, r2, v2, w2, f1, f2, j', f3, f4, f5, f6, f7⟩ := r_numb hN H G (lo := 0) (hi := 9999) (by decide) (by decide)
    rw [f1, bI_some, w32_0, if_pos rfl, if_pos rfl, f2, bI_some]
    refine ⟨_, _, _, _, rfl, rfl, j', f3, f4, f5, f6, ?_⟩
    rcases f7 with f7 | f7
    · refine Or.inl ⟨f7.1, f7.2.1, f7.2.2.1, ?_⟩
      have := f7.2.2.2
      omega
    · exact Or.inr f7
