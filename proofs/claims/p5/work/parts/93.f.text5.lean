/-- the model's tape -/
def MB (r : St) (b : Nat → Int) (z : Nat) : Prop := r 77 19 = z ∧ z ≤ 120 ∧ ∀ i, i < z → r 94 i = b i ∧ 0 ≤ b i ∧ b i ≤ 255
theorem MB.cong {r r' : St} {b : Nat → Int} {z : Nat} (H : MB r b z) (e : r' 77 19 = r 77 19) (f : ∀ k, r' 94 k = r 94 k) : MB r' b z := ⟨e.trans H.1, H.2.1, fun i hi => ⟨(f i).trans (H.2.2 i hi).1, (H.2.2 i hi).2⟩⟩
theorem m_byte {N : Nat} {r : St} {b : Nat → Int} {z a : Nat} (H : MB r b z) (ha : a ≤ 200) : d_x8_byteAt N r (a : Int) = some (r, if a < z then b a else -1) := by
  have h1 := H.1
  have h2 := H.2.1
  unfold d_x8_byteAt
  rw [h1, w32i (x := (a : Int)) (by omega) (by omega), w32i (x := (z : Int)) (by omega) (by omega)]
  by_cases h : a < z
  · rw [if_pos (by omega), if_pos (by omega), if_pos h, Int.toNat_natCast, (H.2.2 a h).1]
  · rw [if_neg (by omega), if_neg h]
theorem m_let {N : Nat} {r : St} {b : Nat → Int} {z a e : Nat} {x : Int} (H : MB r b z) (h22 : r 77 22 = a) (h20 : r 77 20 = e) (he : a < e ∧ e ≤ z) (l : Nat) (hl : l < 5) (hx : 0 ≤ x ∧ x < 128) : d_x8_isLetter N r (l : Int) x = some (r, if (if l < e - a then b (a + l) else 0) = x then 1 else 0) := by
  have hz := H.2.1
  unfold d_x8_isLetter
  rw [h22, h20, w32i (x := (a : Int) + (l : Int)) (by omega) (by omega), w32i (x := (e : Int)) (by omega) (by omega), w32i (x := x) (by omega) (by omega)]
  by_cases h : l < e - a
  · have g := H.2.2 (a + l) (by omega)
    rw [if_pos (by omega), if_pos h, show (a : Int) + (l : Int) = ((a + l : Nat) : Int) by omega, m_byte H (by omega), bI_some, if_pos (show a + l < z by omega), w32i (x := b (a + l)) (by omega) (by omega)]
    by_cases y : b (a + l) = x
    · rw [if_pos y, if_pos y]
    · rw [if_neg y, if_neg y]
  · rw [if_neg (by omega), if_neg h]
    by_cases y : x = 0
    · rw [if_pos y, if_pos y.symm]
    · rw [if_neg y, if_neg (fun q => y q.symm)]
theorem m_isw {N : Nat} {r : St} {b : Nat → Int} {z a e k : Nat} {x0 x1 x2 x3 x4 : Int} (H : MB r b z) (h22 : r 77 22 = a) (h20 : r 77 20 = e) (he : a < e ∧ e ≤ z) (hx : tl k = [x0, x1, x2, x3, x4] ∨ (x4 = 0 ∧ tl k = [x0, x1, x2, x3]) ∨ (x4 = 0 ∧ x3 = 0 ∧ tl k = [x0, x1, x2])) (h0 : (0 ≤ x0 ∧ x0 < 128) ∧ (0 ≤ x1 ∧ x1 < 128) ∧ (0 ≤ x2 ∧ x2 < 128) ∧ (0 ≤ x3 ∧ x3 < 128) ∧ (0 ≤ x4 ∧ x4 < 128)) : (mw b a (e - a) k → d_x8_isWord N r x0 x1 x2 x3 x4 = some (r, 1)) ∧ (¬ mw b a (e - a) k → d_x8_isWord N r x0 x1 x2 x3 x4 = some (r, 0)) := by
  have hz := H.2.1
  have g : (tl k).getD 0 0 = x0 ∧ (tl k).getD 1 0 = x1 ∧ (tl k).getD 2 0 = x2 ∧ (tl k).getD 3 0 = x3 ∧ (tl k).getD 4 0 = x4 := by
    rcases hx with q | q | q
    · rw [q]
      exact ⟨rfl, rfl, rfl, rfl, rfl⟩
    · rw [q.2, q.1]
      exact ⟨rfl, rfl, rfl, rfl, rfl⟩
    · rw [q.2.2, q.1, q.2.1]
      exact ⟨rfl, rfl, rfl, rfl, rfl⟩
  have l0 := m_let (N := N) (x := x0) H h22 h20 he 0 (by decide) h0.1
  have l1 := m_let (N := N) (x := x1) H h22 h20 he 1 (by decide) h0.2.1
  have l2 := m_let (N := N) (x := x2) H h22 h20 he 2 (by decide) h0.2.2.1
  have l3 := m_let (N := N) (x := x3) H h22 h20 he 3 (by decide) h0.2.2.2.1
  have l4 := m_let (N := N) (x := x4) H h22 h20 he 4 (by decide) h0.2.2.2.2
  have f0 : d_x8_isLetter N r 0 x0 = some (r, if (if 0 < e - a then b (a + 0) else 0) = x0 then 1 else 0) := l0
  have f1 : d_x8_isLetter N r 1 x1 = some (r, if (if 1 < e - a then b (a + 1) else 0) = x1 then 1 else 0) := l1
  have f2 : d_x8_isLetter N r 2 x2 = some (r, if (if 2 < e - a then b (a + 2) else 0) = x2 then 1 else 0) := l2
  have f3 : d_x8_isLetter N r 3 x3 = some (r, if (if 3 < e - a then b (a + 3) else 0) = x3 then 1 else 0) := l3
  have f4 : d_x8_isLetter N r 4 x4 = some (r, if (if 4 < e - a then b (a + 4) else 0) = x4 then 1 else 0) := l4
  have cut : ∀ q : mw b a (e - a) k, (if 0 < e - a then b (a + 0) else 0) = x0 ∧ (if 1 < e - a then b (a + 1) else 0) = x1 ∧ (if 2 < e - a then b (a + 2) else 0) = x2 ∧ (if 3 < e - a then b (a + 3) else 0) = x3 ∧ (if 4 < e - a then b (a + 4) else 0) = x4 := fun q => ⟨(q.2 0 (by decide)).trans g.1, (q.2 1 (by decide)).trans g.2.1, (q.2 2 (by decide)).trans g.2.2.1, (q.2 3 (by decide)).trans g.2.2.2.1, (q.2 4 (by decide)).trans g.2.2.2.2⟩
  have join : e - a ≤ 5 → ((if 0 < e - a then b (a + 0) else 0) = x0 ∧ (if 1 < e - a then b (a + 1) else 0) = x1 ∧ (if 2 < e - a then b (a + 2) else 0) = x2 ∧ (if 3 < e - a then b (a + 3) else 0) = x3 ∧ (if 4 < e - a then b (a + 4) else 0) = x4) → mw b a (e - a) k := fun h5 q => ⟨h5, fun l hl => by
    have hl' : l = 0 ∨ l = 1 ∨ l = 2 ∨ l = 3 ∨ l = 4 := by omega
    rcases hl' with e | e | e | e | e <;> subst e
    · exact q.1.trans g.1.symm
    · exact q.2.1.trans g.2.1.symm
    · exact q.2.2.1.trans g.2.2.1.symm
    · exact q.2.2.2.1.trans g.2.2.2.1.symm
    · exact q.2.2.2.2.trans g.2.2.2.2.symm⟩
  unfold d_x8_isWord
  rw [h22, h20, w32i (x := (a : Int) + 5) (by omega) (by omega), w32i (x := (e : Int)) (by omega) (by omega), f0, bI_some, f1, bI_some, f2, bI_some, f3, bI_some, f4, bI_some]
  generalize (if 0 < e - a then b (a + 0) else 0) = y0 at *
  generalize (if 1 < e - a then b (a + 1) else 0) = y1 at *
  generalize (if 2 < e - a then b (a + 2) else 0) = y2 at *
  generalize (if 3 < e - a then b (a + 3) else 0) = y3 at *
  generalize (if 4 < e - a then b (a + 4) else 0) = y4 at *
  by_cases h5 : (a : Int) + 5 < (e : Int)
  · rw [if_pos h5]
    exact ⟨fun q => by have := q.1; omega, fun _ => rfl⟩
  · rw [if_neg h5]
    by_cases c0 : y0 = x0
    · rw [if_pos c0, w32_1, if_neg (by decide)]
      by_cases c1 : y1 = x1
      · rw [if_pos c1, w32_1, if_neg (by decide)]
        by_cases c2 : y2 = x2
        · rw [if_pos c2, w32_1, if_neg (by decide)]
          by_cases c3 : y3 = x3
          · rw [if_pos c3, w32_1, if_neg (by decide)]
            by_cases c4 : y4 = x4
            · rw [if_pos c4, w32_1, if_neg (by decide)]
              exact ⟨fun _ => rfl, fun q => absurd (join (by omega) ⟨c0, c1, c2, c3, c4⟩) q⟩
            · rw [if_neg c4, if_pos w32_0]
              exact ⟨fun q => absurd (cut q).2.2.2.2 c4, fun _ => rfl⟩
          · rw [if_neg c3, if_pos w32_0]
            exact ⟨fun q => absurd (cut q).2.2.2.1 c3, fun _ => rfl⟩
        · rw [if_neg c2, if_pos w32_0]
          exact ⟨fun q => absurd (cut q).2.2.1 c2, fun _ => rfl⟩
      · rw [if_neg c1, if_pos w32_0]
        exact ⟨fun q => absurd (cut q).2.1 c1, fun _ => rfl⟩
    · rw [if_neg c0, if_pos w32_0]
      exact ⟨fun q => absurd (cut q).1 c0, fun _ => rfl⟩
theorem m_36 {N : Nat} {r : St} {b : Nat → Int} {z a e : Nat} (H : MB r b z) (h22 : r 77 22 = a) (h20 : r 77 20 = e) (he : a < e ∧ e ≤ z) : d_x8_kindOf_36 N r = some (r, fk b a (e - a) 13 1) := by
  unfold d_x8_kindOf_36
  have k1 := m_isw (N := N) (k := 1) (x0 := 102) (x1 := 114) (x2 := 111) (x3 := 109) (x4 := 0) H h22 h20 he (Or.inr (Or.inl ⟨rfl, by decide +kernel⟩)) (by decide)
  by_cases q1 : mw b a (e - a) 1
  · rw [k1.1 q1, bI_some, if_neg (by decide), fk_y q1]
    rfl
  rw [k1.2 q1, bI_some, if_pos (by decide), fk_n q1]
  have k2 := m_isw (N := N) (k := 2) (x0 := 108) (x1 := 105) (x2 := 115) (x3 := 116) (x4 := 0) H h22 h20 he (Or.inr (Or.inl ⟨rfl, by decide +kernel⟩)) (by decide)
  by_cases q2 : mw b a (e - a) 2
  · rw [k2.1 q2, bI_some, if_neg (by decide), fk_y q2]
    rfl
  rw [k2.2 q2, bI_some, if_pos (by decide), fk_n q2]
  have k3 := m_isw (N := N) (k := 3) (x0 := 109) (x1 := 97) (x2 := 112) (x3 := 0) (x4 := 0) H h22 h20 he (Or.inr (Or.inr ⟨rfl, rfl, by decide +kernel⟩)) (by decide)
  by_cases q3 : mw b a (e - a) 3
  · rw [k3.1 q3, bI_some, if_neg (by decide), fk_y q3]
    rfl
  rw [k3.2 q3, bI_some, if_pos (by decide), fk_n q3]
  have k4 := m_isw (N := N) (k := 4) (x0 := 107) (x1 := 101) (x2 := 101) (x3 := 112) (x4 := 0) H h22 h20 he (Or.inr (Or.inl ⟨rfl, by decide +kernel⟩)) (by decide)
  by_cases q4 : mw b a (e - a) 4
  · rw [k4.1 q4, bI_some, if_neg (by decide), fk_y q4]
    rfl
  rw [k4.2 q4, bI_some, if_pos (by decide), fk_n q4]
  have k5 := m_isw (N := N) (k := 5) (x0 := 119) (x1 := 104) (x2 := 105) (x3 := 108) (x4 := 101) H h22 h20 he (Or.inl (by decide +kernel)) (by decide)
  by_cases q5 : mw b a (e - a) 5
  · rw [k5.1 q5, bI_some, if_neg (by decide), fk_y q5]
    rfl
  rw [k5.2 q5, bI_some, if_pos (by decide), fk_n q5]
  have k6 := m_isw (N := N) (k := 6) (x0 := 122) (x1 := 105) (x2 := 112) (x3 := 0) (x4 := 0) H h22 h20 he (Or.inr (Or.inr ⟨rfl, rfl, by decide +kernel⟩)) (by decide)
  by_cases q6 : mw b a (e - a) 6
  · rw [k6.1 q6, bI_some, if_neg (by decide), fk_y q6]
    rfl
  rw [k6.2 q6, bI_some, if_pos (by decide), fk_n q6]
  have k7 := m_isw (N := N) (k := 7) (x0 := 109) (x1 := 101) (x2 := 114) (x3 := 103) (x4 := 101) H h22 h20 he (Or.inl (by decide +kernel)) (by decide)
  by_cases q7 : mw b a (e - a) 7
  · rw [k7.1 q7, bI_some, if_neg (by decide), fk_y q7]
    rfl
  rw [k7.2 q7, bI_some, if_pos (by decide), fk_n q7]
  have k8 := m_isw (N := N) (k := 8) (x0 := 116) (x1 := 97) (x2 := 107) (x3 := 101) (x4 := 0) H h22 h20 he (Or.inr (Or.inl ⟨rfl, by decide +kernel⟩)) (by decide)
  by_cases q8 : mw b a (e - a) 8
  · rw [k8.1 q8, bI_some, if_neg (by decide), fk_y q8]
    rfl
  rw [k8.2 q8, bI_some, if_pos (by decide), fk_n q8]
  have k9 := m_isw (N := N) (k := 9) (x0 := 100) (x1 := 114) (x2 := 111) (x3 := 112) (x4 := 0) H h22 h20 he (Or.inr (Or.inl ⟨rfl, by decide +kernel⟩)) (by decide)
  by_cases q9 : mw b a (e - a) 9
  · rw [k9.1 q9, bI_some, if_neg (by decide), fk_y q9]
    rfl
  rw [k9.2 q9, bI_some, if_pos (by decide), fk_n q9]
  have k10 := m_isw (N := N) (k := 10) (x0 := 115) (x1 := 99) (x2 := 97) (x3 := 110) (x4 := 0) H h22 h20 he (Or.inr (Or.inl ⟨rfl, by decide +kernel⟩)) (by decide)
  by_cases q10 : mw b a (e - a) 10
  · rw [k10.1 q10, bI_some, if_neg (by decide), fk_y q10]
    rfl
  rw [k10.2 q10, bI_some, if_pos (by decide), fk_n q10]
  have k11 := m_isw (N := N) (k := 11) (x0 := 115) (x1 := 105) (x2 := 101) (x3 := 118) (x4 := 101) H h22 h20 he (Or.inl (by decide +kernel)) (by decide)
  by_cases q11 : mw b a (e - a) 11
  · rw [k11.1 q11, bI_some, if_neg (by decide), fk_y q11]
    rfl
  rw [k11.2 q11, bI_some, if_pos (by decide), fk_n q11]
  have k12 := m_isw (N := N) (k := 12) (x0 := 99) (x1 := 111) (x2 := 110) (x3 := 115) (x4 := 0) H h22 h20 he (Or.inr (Or.inl ⟨rfl, by decide +kernel⟩)) (by decide)
  by_cases q12 : mw b a (e - a) 12
  · rw [k12.1 q12, bI_some, if_neg (by decide), fk_y q12]
    rfl
  rw [k12.2 q12, bI_some, if_pos (by decide), fk_n q12]
  have k13 := m_isw (N := N) (k := 13) (x0 := 99) (x1 := 117) (x2 := 116) (x3 := 0) (x4 := 0) H h22 h20 he (Or.inr (Or.inr ⟨rfl, rfl, by decide +kernel⟩)) (by decide)
  by_cases q13 : mw b a (e - a) 13
  · rw [k13.1 q13, bI_some, if_neg (by decide), fk_y q13]
    rfl
  rw [k13.2 q13, bI_some, if_pos (by decide), fk_n q13]
  rfl
theorem m_kof {N : Nat} {r : St} {b : Nat → Int} {z a e : Nat} (H : MB r b z) (h22 : r 77 22 = a) (h20 : r 77 20 = e) (he : a < e ∧ e ≤ z) (hl : 97 ≤ b a ∧ b a ≤ 122) : d_x8_kindOf N r = some (r, kd b a (e - a)) := by
  have hz := H.2.1
  unfold d_x8_kindOf kd
  have m := m_36 (N := N) H h22 h20 he
  rw [h20, h22, w32i (x := (a : Int) + 1) (by omega) (by omega), w32i (x := (e : Int)) (by omega) (by omega)]
  by_cases h1 : e - a = 1
  · rw [if_pos (by omega), m_byte H (by omega), bI_some, if_pos (show a < z by omega), if_pos h1]
    by_cases h2 : b a < 105
    · rw [int (by unfold r32; omega) (by unfold r32; omega) (by unfold r32; omega) (by omega), bI_some, if_neg (by decide), if_pos h2]
    · rw [inf (by unfold r32; omega) (by unfold r32; omega) (by unfold r32; omega) (by omega), bI_some, if_pos (by decide), if_neg h2, m, h1, fk_1 13 1 (by omega) (by omega)]
  · rw [if_neg (by omega), if_neg h1, m]
