section
def Rd (A B : Option Rs) (Q : St → St → Int → Int → Prop) : Prop := ∃ c r v w, A = some (c, v) ∧ B = some (r, w) ∧ Q c r v w
/-- read from TOKEN j on, lo TOKENS at least, an answer within R -/
def QR (c r : St) (b : Nat → Int) (z n j lo : Nat) (R : Int → Prop) (c' r' : St) (v w : Int) : Prop := ∃ j', j ≤ j' ∧ RD c' r' b z n j' ∧ FC c c' ∧ FM r r' ∧ ((gd c' r' b z j' ∧ j + lo ≤ j' ∧ w = v ∧ R v) ∨ bad c' r')
theorem RD.rng {c r : St} {b : Nat → Int} {z n j : Nat} (H : RD c r b z n j) : 0 ≤ c 13 j ∧ c 13 j ≤ 5 ∧ -1 ≤ c 14 j ∧ c 14 j ≤ 9999 ∧ j ≤ 120 := by
  obtain ⟨⟨t1, t2, t3, t4, t5, t6, t7⟩, M, h6, hj⟩ := H
  have hz := M.2.1
  by_cases e : j = n
  · subst e
    omega
  · have t := t1 j (by omega)
    have ms := mng_r t.1 (fun i hi => (M.2.2 i hi).2)
    have sr := so_r (b (bgf b z j))
    have hs : 1 ≤ srt b (bgf b z j) (te b z (bgf b z j)) ∧ srt b (bgf b z j) (te b z (bgf b z j)) ≤ 5 := by
      unfold srt
      split <;> omega
    omega
theorem e_sgn {N : Nat} {c r : St} {b : Nat → Int} {z n j : Nat} {x : Int} (H : RD c r b z n j) (hx : r32 x) : d_x2_isSign N c x = some (c, if c 13 j = 3 ∧ c 14 j = x then 1 else 0) := by
  have R := H.rng
  have hj := H.2.2.1
  unfold d_x2_isSign
  rw [hj, w32i (x := (j : Int)) (by omega) (by omega), if_pos (by omega), Int.toNat_natCast, w32i (x := c 13 j) (by omega) (by omega), w32i (x := c 14 j) (by omega) (by omega), w32r hx]
  by_cases h3 : c 13 j = 3
  · rw [if_pos h3, if_pos (by omega)]
    by_cases h4 : c 14 j = x
    · rw [if_pos h4, if_pos ⟨h3, h4⟩]
    · rw [if_neg h4, if_neg (fun q => h4 q.2)]
  · rw [if_neg h3, if_neg (fun q => h3 q.1)]
theorem m_sgn {N : Nat} {c r : St} {b : Nat → Int} {z n j : Nat} {x : Int} (H : RD c r b z n j) (G : gd c r b z j) (hx : r32 x) : d_x8_isSign N r x = some (r, if c 13 j = 3 ∧ c 14 j = x then 1 else 0) := by
  have S := H.sort G
  unfold d_x8_isSign
  rw [G.2.1, if_pos w32_0, w32i (x := r 77 21) (by omega) (by omega)]
  by_cases h3 : c 13 j = 3
  · have e23 : r 77 23 = c 14 j := S.2.2.2.2.2.2.2.2.2.1 (Or.inr h3)
    rw [if_pos (by omega), e23, w32i (x := c 14 j) (by omega) (by omega), w32r hx]
    by_cases h4 : c 14 j = x
    · rw [if_pos h4, if_pos ⟨h3, h4⟩]
    · rw [if_neg h4, if_neg (fun q => h4 q.2)]
  · rw [if_neg (by omega), if_neg (fun q => h3 q.1)]
theorem m_sgb0 {N : Nat} {c r : St} {x : Int} (B : bad c r) : d_x8_isSign N r x = some (r, 0) := by
  unfold d_x8_isSign
  rw [B.2.2.2, if_neg (by decide)]
theorem r_numb {N : Nat} (hN : 500 ≤ N) {c r : St} {b : Nat → Int} {z n j : Nat} {lo hi : Int} (H : RD c r b z n j) (G : gd c r b z j) (h0 : 0 ≤ lo ∧ lo ≤ 9999) (h1 : 0 ≤ hi ∧ hi ≤ 9999) : Rd (d_x2_readNumber N c lo hi) (d_x8_plain N r lo hi) (QR c r b z n j 1 (fun v => lo ≤ v ∧ v ≤ hi)) := by
  have S := H.sort G
  have hj := H.2.2.1
  have ms : Rd (d_x2_readNumber_33 N c lo) (d_x8_plain_30 N r) (QR c r b z n j 1 (fun v => lo ≤ v ∧ v ≤ hi)) := by
    obtain ⟨c', r', v, w, e1, e2, e3, e4, e5, e6⟩ := H.miss (N := N) (Or.inl G)
    unfold d_x2_readNumber_33 d_x8_plain_30
    rw [e1, e2, bV_some, bV_some]
    exact ⟨c', r', _, _, rfl, rfl, j, Nat.le_refl _, e3, e5, e6, Or.inr e4⟩
  unfold d_x2_readNumber d_x8_plain
  rw [hj, w32i (x := (j : Int)) (by omega) (by omega), if_pos (by omega), bd_eq, if_pos (by omega), Int.toNat_natCast, w32i (x := c 13 j) (by omega) (by omega), w32i (x := c 14 j) (by omega) (by omega), w32i (x := lo) (by omega) (by omega), w32i (x := hi) (by omega) (by omega), G.2.1, if_pos w32_0, w32i (x := r 77 21) (by omega) (by omega)]
  by_cases h2 : c 13 j = 2
  · have e23 : r 77 23 = c 14 j := S.2.2.2.2.2.2.2.2.2.1 (Or.inl h2)
    rw [if_pos h2, if_pos (show r 77 21 = 2 by omega), e23, w32i (x := c 14 j) (by omega) (by omega), e_in32 N r (show r32 (c 14 j) by unfold r32; omega) (show r32 lo by unfold r32; omega) (show r32 hi by unfold r32; omega), bI_some]
    by_cases hr : lo ≤ c 14 j ∧ c 14 j ≤ hi
    · obtain ⟨r', v, e1, e2, e3, e4⟩ := H.adv hN G (by omega) (by omega)
      rw [if_neg (show ¬ c 14 j < lo by omega), if_neg (show ¬ hi < c 14 j by omega), bd_eq, if_pos hr, if_neg (by decide), bd_eq, e1, bV_some, e23, w32i (x := c 14 j) (by omega) (by omega)]
      exact ⟨_, _, _, _, rfl, rfl, j + 1, by omega, e2, fun a k h => up_o (by omega), e4.fm, Or.inl ⟨e3, Nat.le_refl _, rfl, hr⟩⟩
    · rw [if_neg hr, if_pos w32_0]
      by_cases hl : c 14 j < lo
      · rw [if_pos hl]
        exact ms
      · rw [if_neg hl, if_pos (show hi < c 14 j by omega)]
        exact ms
  · rw [if_neg h2, if_neg (show ¬ r 77 21 = 2 by omega)]
    exact ms
theorem r_num {N : Nat} (hN : 500 ≤ N) {c r : St} {b : Nat → Int} {z n j : Nat} (H : RD c r b z n j) (G : gd c r b z j) : Rd (d_x2_readNum N c) (d_x8_num N r) (QR c r b z n j 1 (fun v => -9999 ≤ v ∧ v ≤ 9999)) := by
  have S := H.sort G
  have hj := H.2.2.1
  unfold d_x2_readNum d_x8_num
  rw [e_sgn H (by unfold r32; omega), m_sgn H G (by unfold r32; omega), bI_some, bI_some]
  by_cases q : c 13 j = 3 ∧ c 14 j = 45
  · obtain ⟨r', v, e1, e2, e3, e4⟩ := H.adv hN G (by omega) (by omega)
    rw [if_pos q, w32_1, if_neg (by decide), if_neg (by decide), bd_eq, hj, e1, bV_some]
    unfold d_x2_readNum_21 d_x8_num_15
    obtain ⟨c2, r2, v2, w2, f1, f2, j', f3, f4, f5, f6, f7⟩ := r_numb hN e2 e3 (lo := 0) (hi := 9999) (by decide) (by decide)
    rw [f1, bI_some, w32_1, if_neg (by decide), if_neg (by decide), f2, bI_some]
    refine ⟨_, _, _, _, rfl, rfl, j', by omega, f4, FC.trans (fun a k h => up_o (by omega)) f5, FM.trans e4.fm f6, ?_⟩
    rcases f7 with f7 | f7
    · refine Or.inl ⟨f7.1, by have := f7.2.1; omega, by rw [f7.2.2.1], ?_⟩
      have := f7.2.2.2
      omega
    · exact Or.inr f7
  · rw [if_neg q, w32_0, if_pos rfl, if_pos rfl]
    unfold d_x2_readNum_21 d_x8_num_15
    obtain ⟨c2, r2, v2, w2, f1, f2, j', f3, f4, f5, f6, f7⟩ := r_numb hN H G (lo := 0) (hi := 9999) (by decide) (by decide)
    rw [f1, bI_some, w32_0, if_pos rfl, if_pos rfl, f2, bI_some]
    refine ⟨_, _, _, _, rfl, rfl, j', f3, f4, f5, f6, ?_⟩
    rcases f7 with f7 | f7
    · refine Or.inl ⟨f7.1, f7.2.1, f7.2.2.1, ?_⟩
      have := f7.2.2.2
      omega
    · exact Or.inr f7
end
section
theorem RD.sg {c r : St} {b : Nat → Int} {z n j : Nat} (H : RD c r b z n j) (h3 : c 13 j = 3) : 0 ≤ c 14 j ∧ c 14 j ≤ 255 := by
  obtain ⟨⟨t1, t2, t3, t4, t5, t6, t7⟩, M, h6, hj⟩ := H
  by_cases e : j = n
  · subst e
    omega
  · have t := t1 j (by omega)
    have g := (M.2.2 _ t.1).2
    have e3 : srt b (bgf b z j) (te b z (bgf b z j)) = 3 := by rw [← t.2.2.1]; exact h3
    rw [t.2.2.2]
    unfold mng
    rw [e3, if_neg (by decide), if_neg (by decide)]
    exact g
def sgs (t : Nat) (v : Int) : Prop := (t = 23 ∧ (v = 43 ∨ v = 45 ∨ v = 42 ∨ v = 47 ∨ v = 37)) ∨ (t = 24 ∧ (v = 60 ∨ v = 62 ∨ v = 61 ∨ v = 37))
theorem sgs_mem {t : Nat} (ht : t = 23 ∨ t = 24) {v : Int} (hv : 0 ≤ v ∧ v ≤ 255) : v ∈ tl t ↔ sgs t v := by
  have e0 : ((v.toNat : Nat) : Int) = v := by omega
  unfold sgs
  rcases ht with e | e <;> subst e
  · have m : (((v.toNat : Nat) : Int) ∈ tl 23 ↔ (v.toNat = 43 ∨ v.toNat = 45 ∨ v.toNat = 42 ∨ v.toNat = 47 ∨ v.toNat = 37)) := tl23 ⟨v.toNat, by omega⟩
    rw [e0] at m
    rw [m]
    omega
  · have m : (((v.toNat : Nat) : Int) ∈ tl 24 ↔ (v.toNat = 60 ∨ v.toNat = 62 ∨ v.toNat = 61 ∨ v.toNat = 37)) := tl24 ⟨v.toNat, by omega⟩
    rw [e0] at m
    rw [m]
    omega
theorem r_sign {N : Nat} (hN : 500 ≤ N) {c r : St} {b : Nat → Int} {z n j t : Nat} (ht : t = 23 ∨ t = 24) (H : RD c r b z n j) (G : gd c r b z j) : Rd (d_x2_readSign N c (2 * t + 1)) (d_x8_op N r (if t = 23 then 0 else 1)) (QR c r b z n j 1 (sgs t)) := by
  have S := H.sort G
  have hj := H.2.2.1
  have ms : ∃ c' v, d_x2_readSign_32 N c = some (c', v) ∧ ∃ r' w, d_x8_op_98 N r 0 = some (r', w) ∧ QR c r b z n j 1 (sgs t) c' r' v w := by
    obtain ⟨c', r', v, w, e1, e2, e3, e4, e5, e6⟩ := H.miss (N := N) (Or.inl G)
    unfold d_x2_readSign_32 d_x8_op_98 d_x8_op_107
    rw [e1, bV_some, if_pos w32_0, e2, bV_some, bd_eq, e4.2.2.2, if_neg (by decide)]
    exact ⟨c', _, rfl, r', _, rfl, j, Nat.le_refl _, e3, e5, e6, Or.inr e4⟩
  obtain ⟨cm, vm, em, rm, wm, fm, qm⟩ := ms
  have cls : (c 13 j = 3 ∧ sgs t (c 14 j) → d_x2_readSign N c (2 * t + 1) = some (up c 1 6 ((j : Int) + 1), c 14 j)) ∧ (¬ (c 13 j = 3 ∧ sgs t (c 14 j)) → d_x2_readSign N c (2 * t + 1) = some (cm, vm)) := by
    unfold d_x2_readSign
    rw [hj, w32i (x := (j : Int)) (by omega) (by omega), if_pos (by omega), bd_eq, if_pos (by omega), Int.toNat_natCast, w32i (x := c 13 j) (by omega) (by omega)]
    by_cases h3 : c 13 j = 3
    · have hv := H.sg h3
      obtain ⟨v, e1, e2, e3, e4⟩ := e_idx (N := N) (i := t) (by omega) (by omega) (s := c) hv
      have m := sgs_mem ht hv
      rw [if_pos h3, if_neg (show ¬ 2 * t + 1 = 1000 by omega), if_pos (by omega), e1, bI_some, w32i (x := v) (by omega) (by omega), hj]
      by_cases q : v < 0
      · have nm := e2.mp q
        rw [if_pos q, em]
        exact ⟨fun y => absurd (m.mpr y.2) nm, fun _ => rfl⟩
      · have ym : c 14 j ∈ tl t := Classical.byContradiction (fun y => q (e2.mpr y))
        rw [if_neg q, bd_eq]
        exact ⟨fun _ => rfl, fun y => absurd ⟨h3, m.mp ym⟩ y⟩
    · rw [if_neg h3, em]
      exact ⟨fun y => absurd y.1 h3, fun _ => rfl⟩
  by_cases q : c 13 j = 3 ∧ sgs t (c 14 j)
  · obtain ⟨r', v, e1, e2, e3, e4⟩ := H.adv hN G (by omega) (by omega)
    have e23 : r 77 23 = c 14 j := S.2.2.2.2.2.2.2.2.2.1 (Or.inr q.1)
    have go : d_x8_op_98 N r 1 = some (r', c 14 j) := by
      unfold d_x8_op_98 d_x8_op_107
      rw [w32_1, if_neg (by decide), bd_eq, G.2.1, if_pos w32_0, e1, bV_some, e23]
    refine ⟨_, r', _, c 14 j, cls.1 q, ?_, j + 1, by omega, e2, fun a k h => up_o (by omega), e4.fm, Or.inl ⟨e3, Nat.le_refl _, rfl, q.2⟩⟩
    unfold d_x8_op d_x8_op_93 d_x8_op_40
    have is1 : ∀ x, r32 x → c 14 j = x → d_x8_isSign N r x = some (r, 1) := fun x hx e => by rw [m_sgn H G hx, if_pos ⟨q.1, e⟩]
    have is0 : ∀ x, r32 x → c 14 j ≠ x → d_x8_isSign N r x = some (r, 0) := fun x hx e => by rw [m_sgn H G hx, if_neg (fun y => e y.2)]
    have z32 : ∀ x : Int, 0 ≤ x ∧ x ≤ 200 → r32 x := fun x hx => by unfold r32; omega
    have n0 : ¬ w32 (1 : Int) = 0 := by decide
    rcases q.2 with ⟨et, hv⟩ | ⟨et, hv⟩
    · rw [if_pos et, if_pos w32_0]
      rcases hv with e | e | e | e | e
      · rw [is1 43 (z32 _ (by decide)) e, bI_some, if_neg n0, go]
      · rw [is0 43 (z32 _ (by decide)) (by omega), bI_some, if_pos w32_0, is1 45 (z32 _ (by decide)) e, bI_some, if_neg n0, go]
      · rw [is0 43 (z32 _ (by decide)) (by omega), bI_some, if_pos w32_0, is0 45 (z32 _ (by decide)) (by omega), bI_some, if_pos w32_0, is1 42 (z32 _ (by decide)) e, bI_some, if_neg n0, go]
      · rw [is0 43 (z32 _ (by decide)) (by omega), bI_some, if_pos w32_0, is0 45 (z32 _ (by decide)) (by omega), bI_some, if_pos w32_0, is0 42 (z32 _ (by decide)) (by omega), bI_some, if_pos w32_0, is1 47 (z32 _ (by decide)) e, bI_some, if_neg n0, go]
      · rw [is0 43 (z32 _ (by decide)) (by omega), bI_some, if_pos w32_0, is0 45 (z32 _ (by decide)) (by omega), bI_some, if_pos w32_0, is0 42 (z32 _ (by decide)) (by omega), bI_some, if_pos w32_0, is0 47 (z32 _ (by decide)) (by omega), bI_some, if_pos w32_0, is1 37 (z32 _ (by decide)) e, bI_some, if_neg n0, go]
    · rw [if_neg (show ¬ t = 23 by omega), if_neg n0]
      rcases hv with e | e | e | e
      · rw [is1 60 (z32 _ (by decide)) e, bI_some, if_neg n0, go]
      · rw [is0 60 (z32 _ (by decide)) (by omega), bI_some, if_pos w32_0, is1 62 (z32 _ (by decide)) e, bI_some, if_neg n0, go]
      · rw [is0 60 (z32 _ (by decide)) (by omega), bI_some, if_pos w32_0, is0 62 (z32 _ (by decide)) (by omega), bI_some, if_pos w32_0, is1 61 (z32 _ (by decide)) e, bI_some, if_neg n0, go]
      · rw [is0 60 (z32 _ (by decide)) (by omega), bI_some, if_pos w32_0, is0 62 (z32 _ (by decide)) (by omega), bI_some, if_pos w32_0, is0 61 (z32 _ (by decide)) (by omega), bI_some, if_pos w32_0, is1 37 (z32 _ (by decide)) e, bI_some, if_neg n0, go]
  · refine ⟨cm, rm, vm, wm, cls.2 q, ?_, qm⟩
    have is0 : ∀ x, r32 x → sgs t x → d_x8_isSign N r x = some (r, 0) := fun x hx e => by rw [m_sgn H G hx, if_neg (fun y => q ⟨y.1, by rw [y.2]; exact e⟩)]
    have z32 : ∀ x : Int, 0 ≤ x ∧ x ≤ 200 → r32 x := fun x hx => by unfold r32; omega
    have n0 : ¬ w32 (1 : Int) = 0 := by decide
    unfold d_x8_op
    rcases ht with et | et
    · have s0 : ∀ x : Int, (x = 43 ∨ x = 45 ∨ x = 42 ∨ x = 47 ∨ x = 37) → sgs t x := fun x hx => Or.inl ⟨et, hx⟩
      rw [if_pos et, if_pos w32_0, is0 43 (z32 _ (by decide)) (s0 _ (by decide)), bI_some, if_pos w32_0, is0 45 (z32 _ (by decide)) (s0 _ (by decide)), bI_some, if_pos w32_0, is0 42 (z32 _ (by decide)) (s0 _ (by decide)), bI_some, if_pos w32_0, is0 47 (z32 _ (by decide)) (s0 _ (by decide)), bI_some, if_pos w32_0, is0 37 (z32 _ (by decide)) (s0 _ (by decide)), bI_some, if_pos w32_0]
      exact fm
    · have s0 : ∀ x : Int, (x = 60 ∨ x = 62 ∨ x = 61 ∨ x = 37) → sgs t x := fun x hx => Or.inr ⟨et, hx⟩
      rw [if_neg (show ¬ t = 23 by omega), if_neg n0, is0 60 (z32 _ (by decide)) (s0 _ (by decide)), bI_some, if_pos w32_0, is0 62 (z32 _ (by decide)) (s0 _ (by decide)), bI_some, if_pos w32_0, is0 61 (z32 _ (by decide)) (s0 _ (by decide)), bI_some, if_pos w32_0, is0 37 (z32 _ (by decide)) (s0 _ (by decide)), bI_some, if_pos w32_0]
      exact fm
end
section
def FC2 (x : Nat) (c c' : St) : Prop := ∀ a k, ¬ (a = 1 ∧ (k = 6 ∨ k = 7)) → ¬ (a = 9 ∧ k = x) → ¬ (a = 10 ∧ 8 * x ≤ k ∧ k < 8 * x + 8) → c' a k = c a k
def FM2 (x : Nat) (r r' : St) : Prop := ∀ y k, ¬ (y = 77 ∧ 20 ≤ k ∧ k ≤ 25) → ¬ (y = 100 ∧ k = x) → ¬ (y = 101 ∧ 8 * x ≤ k ∧ k < 8 * x + 8) → r' y k = r y k
theorem FC2.trans {x : Nat} {a b c : St} (h : FC2 x a b) (g : FC2 x b c) : FC2 x a c := fun y k p q s => (g y k p q s).trans (h y k p q s)
theorem FM2.trans {x : Nat} {a b c : St} (h : FM2 x a b) (g : FM2 x b c) : FM2 x a c := fun y k p q s => (g y k p q s).trans (h y k p q s)
theorem FC.w {x : Nat} {a b : St} (h : FC a b) : FC2 x a b := fun y k p _ _ => h y k p
theorem FM.w {x : Nat} {a b : St} (h : FM a b) : FM2 x a b := fun y k p _ _ => h y k p
theorem RD.cong {c r c' r' : St} {b : Nat → Int} {z n j : Nat} (H : RD c r b z n j) (e : ∀ a k, a = 1 ∨ (11 ≤ a ∧ a ≤ 14) → c' a k = c a k) (f : ∀ y k, y = 77 ∨ y = 94 → r' y k = r y k) : RD c' r' b z n j := ⟨H.1.cong (fun a k _ _ => e a k (by omega)), H.2.1.cong (f _ _ (by omega)) (fun k => f _ _ (by omega)), (e 1 6 (by omega)).trans H.2.2.1, H.2.2.2⟩
theorem gd.cong {c r c' r' : St} {b : Nat → Int} {z j : Nat} (G : gd c r b z j) (e : ∀ k, c' 1 k = c 1 k) (f : ∀ k, r' 77 k = r 77 k) : gd c' r' b z j := by
  unfold gd TKM at *
  simp only [e, f]
  exact G
theorem bad.cong {c r c' r' : St} (B : bad c r) (e : ∀ k, c' 1 k = c 1 k) (f : ∀ k, r' 77 k = r 77 k) : bad c' r' := by
  unfold bad at *
  rw [e, f, f]
  exact B
/-- the first k numbers of a list -/
def ENT (x k : Nat) (c r : St) : Prop := ∀ i, i < k → c 10 (8 * x + i) = r 101 (8 * x + i) ∧ -9999 ≤ c 10 (8 * x + i) ∧ c 10 (8 * x + i) ≤ 9999
def QL (x : Nat) (c r : St) (b : Nat → Int) (z n j k0 : Nat) (c' r' : St) (_ _ : Int) : Prop := ∃ j', j ≤ j' ∧ RD c' r' b z n j' ∧ FC2 x c c' ∧ FM2 x r r' ∧ ((gd c' r' b z j' ∧ ∃ k : Nat, k0 ≤ k ∧ k ≤ 8 ∧ c' 9 x = k ∧ r' 100 x = k ∧ ENT x k c' r' ∧ j + 2 * k ≤ j' + 2 * k0) ∨ bad c' r')
/-- the class behind a number of a list -/
def CL (N m x k : Nat) (c : St) : Option Rs := bI (d_x2_isSign N c 44) fun s8 v9 => (if (w32 v9) = 0 then d_x2_readNums_4L N m s8 (x : Int) (k : Int) v9 else (if (w32 (k : Int)) < 8 then bd (up s8 1 6 ((s8 1 6) + 1)) fun s10 => d_x2_readNums_4L N m s10 (x : Int) (k : Int) v9 else d_x2_readNums_4L N m s8 (x : Int) (k : Int) v9))
theorem e_74 {N x k : Nat} (hx : x < 24) {c : St} : d_x2_readNums_74 N c (x : Int) (k : Int) 0 = some (up c 9 x (k : Int), 0) := by
  unfold d_x2_readNums_74
  rw [w32i (x := (x : Int)) (by omega) (by omega), if_pos (by omega), bd_eq, if_pos w32_0, Int.toNat_natCast]
theorem e_74m {N x k : Nat} (hx : x < 24) {c r : St} {b : Nat → Int} {z n j : Nat} (H : RD c r b z n j) (G : gd c r b z j ∨ bad c r) : ∃ c' r' v w, d_x2_readNums_74 N c (x : Int) (k : Int) 1 = some (c', 0) ∧ d_x8_fail N r = some (r', w) ∧ RD c' r' b z n j ∧ bad c' r' ∧ FC2 x c c' ∧ FM r r' ∧ v = (0 : Int) := by
  have H2 : RD (up c 9 x (k : Int)) r b z n j := H.cong (fun a k h => up_ne (by omega)) (fun _ _ _ => rfl)
  have G2 : gd (up c 9 x (k : Int)) r b z j ∨ bad (up c 9 x (k : Int)) r := by
    rcases G with G | G
    · exact Or.inl (G.cong (fun k => up_ne (by decide)) (fun _ => rfl))
    · exact Or.inr (G.cong (fun k => up_ne (by decide)) (fun _ => rfl))
  obtain ⟨c', r', v, w, e1, e2, e3, e4, e5, e6⟩ := H2.miss (N := N) G2
  unfold d_x2_readNums_74
  rw [w32i (x := (x : Int)) (by omega) (by omega), if_pos (by omega), bd_eq, w32_1, if_neg (by decide), Int.toNat_natCast, e1, bV_some]
  exact ⟨c', r', 0, w, rfl, e2, e3, e4, FC2.trans (fun a q p1 p2 p3 => up_o (by omega)) e5.w, e6, rfl⟩
theorem fail_bad {N : Nat} {c r : St} (B : bad c r) {r' : St} {w : Int} (h : d_x8_fail N r = some (r', w)) : r' = r := by
  unfold d_x8_fail at h
  rw [B.2.2.2, if_neg (by decide)] at h
  exact (congrArg (fun z => (z.getD (r, 0)).1) h).symm
/-- a list that went wrong ends -/
theorem CL_bad {N m x k : Nat} (hm : 2 ≤ m) (hx : x < 24) (hk : k ≤ 8) {c r : St} {b : Nat → Int} {z n j : Nat} (H : RD c r b z n j) (B : bad c r) : ∃ c' j', CL N m x k c = some (c', 0) ∧ j ≤ j' ∧ RD c' r b z n j' ∧ bad c' r ∧ FC2 x c c' := by
  obtain ⟨m, rfl⟩ : ∃ m', m = m' + 1 := ⟨m - 1, by omega⟩
  have R := H.rng
  have hb := B.2
  have stop : ∀ (s : St) (jj : Nat), RD s r b z n jj → bad s r → ∃ c', d_x2_readNums_4L N (m + 1) s (x : Int) (k : Int) 1 = some (c', 0) ∧ RD c' r b z n jj ∧ bad c' r ∧ FC2 x s c' := by
    intro s jj Hs Bs
    obtain ⟨c', r', v, w, e1, e2, e3, e4, e5, e6, _⟩ := e_74m (N := N) (k := k) hx Hs (Or.inr Bs)
    have := fail_bad Bs e2
    subst this
    refine ⟨c', ?_, e3, e4, e5⟩
    show d_x2_readNums_4 N (d_x2_readNums_4L N m) s (x : Int) (k : Int) 1 = _
    unfold d_x2_readNums_4
    have hs := Bs.2
    rw [w32_1, if_neg (by decide), w32i (x := (k : Int)) (by omega) (by omega), w32i (x := s 1 7) (by omega) (by omega), if_neg (show ¬ s 1 7 = -1 by omega), e1]
    split <;> rfl
  unfold CL
  rw [e_sgn H (by unfold r32; omega), bI_some]
  by_cases q : c 13 j = 3 ∧ c 14 j = 44
  · rw [if_pos q, w32_1, if_neg (by decide), w32i (x := (k : Int)) (by omega) (by omega)]
    have hjn : j < n := by
      by_cases y : j < n
      · exact y
      · have e : j = n := by have := H.2.2.2; omega
        have := H.1.2.2.2.2.1
        rw [← e] at this
        omega
    by_cases h8 : (k : Int) < 8
    · rw [if_pos h8, bd_eq]
      have H2 : RD (up c 1 6 (c 1 6 + 1)) r b z n (j + 1) := ⟨H.1.cong (fun a k _ _ => up_ne (by omega)), H.2.1, by rw [up_same, H.2.2.1]; omega, by omega⟩
      have B2 : bad (up c 1 6 (c 1 6 + 1)) r := by
        unfold bad
        rw [up_nj (by decide)]
        exact B
      obtain ⟨c', e1, e2, e3, e4⟩ := stop _ (j + 1) H2 B2
      exact ⟨c', j + 1, e1, by omega, e2, e3, FC2.trans (fun a q p1 p2 p3 => up_o (by omega)) e4⟩
    · rw [if_neg h8]
      obtain ⟨c', e1, e2, e3, e4⟩ := stop c j H B
      exact ⟨c', j, e1, Nat.le_refl _, e2, e3, e4⟩
  · rw [if_neg q, if_pos w32_0]
    refine ⟨up c 9 x (k : Int), j, ?_, Nat.le_refl _, H.cong (fun a k h => up_ne (by omega)) (fun _ _ _ => rfl), B.cong (fun k => up_ne (by decide)) (fun _ => rfl), fun a q p1 p2 p3 => up_o (by omega)⟩
    show d_x2_readNums_4 N (d_x2_readNums_4L N m) c (x : Int) (k : Int) 0 = _
    unfold d_x2_readNums_4
    rw [if_pos w32_0, e_74 hx]
end
section
theorem list_bad {N m x : Nat} (hm : 1 ≤ m) {c r : St} (B : bad c r) : d_x8_list_20L N m r (x : Int) = some (r, 0) := by
  obtain ⟨m, rfl⟩ : ∃ m', m = m' + 1 := ⟨m - 1, by omega⟩
  show d_x8_list_20 N (d_x8_list_20L N m) r (x : Int) = _
  unfold d_x8_list_20
  rw [m_sgb0 B, bI_some, if_pos w32_0]
/-- a list goes on, on both sides -/
theorem CL_all {N : Nat} (hN : 500 ≤ N) {b : Nat → Int} {z n x : Nat} (hx : x < 24) : ∀ (f k m m' : Nat) (c r : St) (j : Nat), k + f = 8 → 1 ≤ k → f + 3 ≤ m → f + 3 ≤ m' → RD c r b z n j → gd c r b z j → r 100 x = k → ENT x k c r → Rd (CL N m x k c) (d_x8_list_20L N m' r (x : Int)) (QL x c r b z n j k) := by
  intro f
  induction f with
  | zero =>
    intro k m m' c r j hk hk1 hm hm' H G h100 E
    obtain ⟨m, rfl⟩ : ∃ mm, m = mm + 1 := ⟨m - 1, by omega⟩
    obtain ⟨m', rfl⟩ : ∃ mm, m' = mm + 1 := ⟨m' - 1, by omega⟩
    have hxw : w32 (x : Int) = x := w32i (by omega) (by omega)
    unfold CL
    show Rd _ (d_x8_list_20 N (d_x8_list_20L N m') r (x : Int)) _
    unfold d_x8_list_20
    rw [e_sgn H (by unfold r32; omega), m_sgn H G (by unfold r32; omega), bI_some, bI_some]
    by_cases q : c 13 j = 3 ∧ c 14 j = 44
    · obtain ⟨c', r', v, w, e1, e2, e3, e4, e5, e6, _⟩ := e_74m (N := N) (k := k) hx H (Or.inl G)
      have l : d_x2_readNums_4L N (m + 1) c (x : Int) (k : Int) 1 = some (c', 0) := by
        show d_x2_readNums_4 N (d_x2_readNums_4L N m) c (x : Int) (k : Int) 1 = _
        unfold d_x2_readNums_4
        rw [w32_1, if_neg (by decide), w32i (x := (k : Int)) (by omega) (by omega), if_neg (by omega), e1]
      rw [if_pos q, w32_1, if_neg (show ¬ (1 : Int) = 0 by decide), w32i (x := (k : Int)) (by omega) (by omega), if_neg (show ¬ (k : Int) < 8 by omega), l, if_neg (show ¬ (1 : Int) = 0 by decide), G.2.1, if_pos w32_0, hxw, if_pos (show 0 ≤ (x : Int) ∧ (x : Int) < ((24 : Nat) : Int) by omega), Int.toNat_natCast, h100, w32i (x := (k : Int)) (by omega) (by omega), if_pos (show (k : Int) = 8 by omega), e2, bV_some, list_bad (by omega) e4]
      exact ⟨_, _, _, _, rfl, rfl, j, Nat.le_refl _, e3, e5, e6.w, Or.inr e4⟩
    · have l : d_x2_readNums_4L N (m + 1) c (x : Int) (k : Int) 0 = some (up c 9 x (k : Int), 0) := by
        show d_x2_readNums_4 N (d_x2_readNums_4L N m) c (x : Int) (k : Int) 0 = _
        unfold d_x2_readNums_4
        rw [if_pos w32_0, e_74 hx]
      rw [if_neg q, if_pos w32_0, if_pos w32_0, l]
      exact ⟨_, _, _, _, rfl, rfl, j, Nat.le_refl _, H.cong (fun a k h => up_ne (by omega)) (fun _ _ _ => rfl), fun a q p1 p2 p3 => up_o (by omega), fun _ _ _ _ _ => rfl, Or.inl ⟨G.cong (fun k => up_ne (by decide)) (fun _ => rfl), k, Nat.le_refl _, by omega, up_same, h100, fun i hi => by rw [up_ne (by decide)]; exact E i hi, Nat.le_refl _⟩⟩
  | succ f ih =>
    intro k m m' c r j hk hk1 hm hm' H G h100 E
    obtain ⟨m, rfl⟩ : ∃ mm, m = mm + 1 := ⟨m - 1, by omega⟩
    obtain ⟨m', rfl⟩ : ∃ mm, m' = mm + 1 := ⟨m' - 1, by omega⟩
    have hxw : w32 (x : Int) = x := w32i (by omega) (by omega)
    have gx : 0 ≤ (x : Int) ∧ (x : Int) < ((24 : Nat) : Int) := by omega
    have hkw : w32 (k : Int) = k := w32i (by omega) (by omega)
    have S := H.sort G
    have hj := H.2.2.1
    unfold CL
    show Rd _ (d_x8_list_20 N (d_x8_list_20L N m') r (x : Int)) _
    unfold d_x8_list_20
    rw [e_sgn H (by unfold r32; omega), m_sgn H G (by unfold r32; omega), bI_some, bI_some]
    by_cases q : c 13 j = 3 ∧ c 14 j = 44
    · obtain ⟨r1, v1, e1, e2, e3, e4⟩ := H.adv hN G (by omega) (by omega)
      obtain ⟨c2, r2, v2, w2, f1, f2, j2, f3, f4, f5, f6, f7⟩ := r_num hN e2 e3
      have g100 : r1 100 x = k := (e4 100 x (by omega)).trans h100
      have i8 : ((x : Int) * 8 + (k : Int)).toNat = 8 * x + k := by omega
      have i8' : (8 * (x : Int) + (k : Int)).toNat = 8 * x + k := by omega
      have l : d_x2_readNums_4L N (m + 1) (up c 1 6 ((j : Int) + 1)) (x : Int) (k : Int) 1 = CL N m x (k + 1) (up c2 10 (8 * x + k) (w32 v2)) := by
        show d_x2_readNums_4 N (d_x2_readNums_4L N m) (up c 1 6 ((j : Int) + 1)) (x : Int) (k : Int) 1 = _
        unfold d_x2_readNums_4 CL
        rw [w32_1, if_neg (by decide), hkw, if_pos (by omega), e3.1, if_pos (by decide), f1, bI_some, w32i (x := (x : Int) * 8 + (k : Int)) (by omega) (by omega), if_pos (by omega), bd_eq, i8, bd_eq]
        rfl
      have fr : r2 100 x = k := (f6 100 x (by omega)).trans g100
      rw [if_pos q, w32_1, if_neg (show ¬ (1 : Int) = 0 by decide), hkw, if_pos (show (k : Int) < 8 by omega), bd_eq, hj, l, if_neg (show ¬ (1 : Int) = 0 by decide), G.2.1, if_pos w32_0, hxw, if_pos gx, Int.toNat_natCast, h100, hkw, if_neg (show ¬ (k : Int) = 8 by omega), e1, bV_some, if_pos gx, f2, bI_some, g100, w32i (x := 8 * (x : Int) + (k : Int)) (by omega) (by omega), if_pos (by omega), bd_eq, if_pos gx, if_pos gx, bd_eq, i8', up_ne (show (100 : Nat) ≠ 101 by decide), fr]
      have H3 : RD (up c2 10 (8 * x + k) (w32 v2)) (up (up r2 101 (8 * x + k) w2) 100 x ((k : Int) + 1)) b z n j2 := f4.cong (fun a k h => up_ne (by omega)) (fun y k h => by rw [up_ne (by omega), up_ne (by omega)])
      have FCt : FC2 x c (up c2 10 (8 * x + k) (w32 v2)) := FC2.trans (FC2.trans (fun a q p1 p2 p3 => up_o (by omega)) f5.w) (fun a q p1 p2 p3 => up_o (by omega))
      have FMt : FM2 x r (up (up r2 101 (8 * x + k) w2) 100 x ((k : Int) + 1)) := FM2.trans (FM2.trans e4.fm.w f6.w) (fun y q p1 p2 p3 => by rw [up_o (by omega), up_o (by omega)])
      rcases f7 with f7 | f7
      · have G3 : gd (up c2 10 (8 * x + k) (w32 v2)) (up (up r2 101 (8 * x + k) w2) 100 x ((k : Int) + 1)) b z j2 := f7.1.cong (fun k => up_ne (by decide)) (fun k => by rw [up_ne (by decide), up_ne (by decide)])
        have rv := f7.2.2.2
        have E3 : ENT x (k + 1) (up c2 10 (8 * x + k) (w32 v2)) (up (up r2 101 (8 * x + k) w2) 100 x ((k : Int) + 1)) := by
          intro i hi
          rw [up_ne (show (101 : Nat) ≠ 100 by decide)]
          by_cases y : i = k
          · subst y
            rw [up_same, up_same, w32i (x := v2) (by omega) (by omega), f7.2.2.1]
            exact ⟨rfl, rv.1, rv.2⟩
          · rw [up_nj (by omega), up_nj (by omega), f5 10 _ (by omega), up_ne (by decide), f6 101 _ (by omega), e4 101 _ (by omega)]
            exact E i (by omega)
        obtain ⟨c4, r4, v4, w4, h1, h2, j4, h3, h4, h5, h6, h7⟩ := ih (k + 1) m m' _ _ j2 (by omega) (by omega) (by omega) (by omega) H3 G3 (by rw [up_same]; omega) E3
        refine ⟨c4, r4, v4, w4, h1, h2, j4, by have := f7.2.1; omega, h4, FCt.trans h5, FMt.trans h6, ?_⟩
        rcases h7 with ⟨g1, k', g2, g3, g4, g5, g6, g7⟩ | h7
        · exact Or.inl ⟨g1, k', by omega, g3, g4, g5, g6, by have := f7.2.1; omega⟩
        · exact Or.inr h7
      · have B3 : bad (up c2 10 (8 * x + k) (w32 v2)) (up (up r2 101 (8 * x + k) w2) 100 x ((k : Int) + 1)) := f7.cong (fun k => up_ne (by decide)) (fun k => by rw [up_ne (by decide), up_ne (by decide)])
        obtain ⟨c4, j4, h1, h2, h3, h4, h5⟩ := CL_bad (N := N) (m := m) (k := k + 1) (by omega) hx (by omega) H3 B3
        exact ⟨c4, _, 0, 0, h1, list_bad (by omega) B3, j4, by omega, h3, FCt.trans h5, FMt, Or.inr h4⟩
    · have l : d_x2_readNums_4L N (m + 1) c (x : Int) (k : Int) 0 = some (up c 9 x (k : Int), 0) := by
        show d_x2_readNums_4 N (d_x2_readNums_4L N m) c (x : Int) (k : Int) 0 = _
        unfold d_x2_readNums_4
        rw [if_pos w32_0, e_74 hx]
      rw [if_neg q, if_pos w32_0, if_pos w32_0, l]
      exact ⟨_, _, _, _, rfl, rfl, j, Nat.le_refl _, H.cong (fun a k h => up_ne (by omega)) (fun _ _ _ => rfl), fun a q p1 p2 p3 => up_o (by omega), fun _ _ _ _ _ => rfl, Or.inl ⟨G.cong (fun k => up_ne (by decide)) (fun _ => rfl), k, Nat.le_refl _, by omega, up_same, h100, fun i hi => by rw [up_ne (by decide)]; exact E i hi, Nat.le_refl _⟩⟩
end
section
def QL1 (x : Nat) (c r : St) (b : Nat → Int) (z n j : Nat) (c' r' : St) (_ _ : Int) : Prop := ∃ j', j ≤ j' ∧ RD c' r' b z n j' ∧ FC2 x c c' ∧ FM2 x r r' ∧ ((gd c' r' b z j' ∧ ∃ k : Nat, 1 ≤ k ∧ k ≤ 8 ∧ c' 9 x = k ∧ r' 100 x = k ∧ ENT x k c' r' ∧ j + 2 * k ≤ j' + 1) ∨ bad c' r')
/-- both read a list -/
theorem r_list {N : Nat} (hN : 500 ≤ N) {b : Nat → Int} {z n x j : Nat} (hx : x < 24) {c r : St} (H : RD c r b z n j) (G : gd c r b z j) : Rd (d_x2_readNums N c (x : Int)) (d_x8_list N r (x : Int)) (QL1 x c r b z n j) := by
  obtain ⟨m, hm⟩ : ∃ m, N = m + 1 := ⟨N - 1, by omega⟩
  obtain ⟨c2, r2, v2, w2, f1, f2, j2, f3, f4, f5, f6, f7⟩ := r_num hN H G
  have gx : 0 ≤ (x : Int) ∧ (x : Int) < ((24 : Nat) : Int) := by omega
  have l : d_x2_readNums N c (x : Int) = CL N m x 1 (up c2 10 (8 * x + 0) (w32 v2)) := by
    unfold d_x2_readNums
    have u : d_x2_readNums_4L N N c (x : Int) 0 1 = d_x2_readNums_4 N (d_x2_readNums_4L N m) c (x : Int) 0 1 := by
      conv => lhs; arg 2; rw [hm]
      rfl
    rw [u]
    unfold d_x2_readNums_4 CL
    rw [w32_1, if_neg (by decide), w32_0, if_pos (by decide), G.1, if_pos (by decide), f1, bI_some, w32i (x := (x : Int) * 8 + 0) (by omega) (by omega), if_pos (by omega), bd_eq, show ((x : Int) * 8 + 0).toNat = 8 * x + 0 by omega, bd_eq]
    rfl
  have lm : d_x8_list N r (x : Int) = d_x8_list_20L N N (up (up r2 101 (8 * x + 0) w2) 100 x 1) (x : Int) := by
    unfold d_x8_list
    rw [f2, bI_some, w32i (x := 8 * (x : Int)) (by omega) (by omega), if_pos (by omega), bd_eq, w32i (x := (x : Int)) (by omega) (by omega), if_pos gx, bd_eq, Int.toNat_natCast, show (8 * (x : Int)).toNat = 8 * x + 0 by omega]
  rw [l, lm]
  have H3 : RD (up c2 10 (8 * x + 0) (w32 v2)) (up (up r2 101 (8 * x + 0) w2) 100 x 1) b z n j2 := f4.cong (fun a k h => up_ne (by omega)) (fun y k h => by rw [up_ne (by omega), up_ne (by omega)])
  have FCt : FC2 x c (up c2 10 (8 * x + 0) (w32 v2)) := FC2.trans f5.w (fun a q p1 p2 p3 => up_o (by omega))
  have FMt : FM2 x r (up (up r2 101 (8 * x + 0) w2) 100 x 1) := FM2.trans f6.w (fun y q p1 p2 p3 => by rw [up_o (by omega), up_o (by omega)])
  rcases f7 with f7 | f7
  · have G3 : gd (up c2 10 (8 * x + 0) (w32 v2)) (up (up r2 101 (8 * x + 0) w2) 100 x 1) b z j2 := f7.1.cong (fun k => up_ne (by decide)) (fun k => by rw [up_ne (by decide), up_ne (by decide)])
    have rv := f7.2.2.2
    have E3 : ENT x 1 (up c2 10 (8 * x + 0) (w32 v2)) (up (up r2 101 (8 * x + 0) w2) 100 x 1) := by
      intro i hi
      have : i = 0 := by omega
      subst this
      rw [up_ne (show (101 : Nat) ≠ 100 by decide), up_same, up_same, w32i (x := v2) (by omega) (by omega), f7.2.2.1]
      exact ⟨rfl, rv.1, rv.2⟩
    obtain ⟨c4, r4, v4, w4, h1, h2, j4, h3, h4, h5, h6, h7⟩ := CL_all hN hx 7 1 m N _ _ j2 (by omega) (by omega) (by omega) (by omega) H3 G3 up_same E3
    refine ⟨c4, r4, v4, w4, h1, h2, j4, by omega, h4, FCt.trans h5, FMt.trans h6, ?_⟩
    rcases h7 with ⟨g1, k', g2, g3, g4, g5, g6, g7⟩ | h7
    · exact Or.inl ⟨g1, k', g2, g3, g4, g5, g6, by have := f7.2.1; omega⟩
    · exact Or.inr h7
  · have B3 : bad (up c2 10 (8 * x + 0) (w32 v2)) (up (up r2 101 (8 * x + 0) w2) 100 x 1) := f7.cong (fun k => up_ne (by decide)) (fun k => by rw [up_ne (by decide), up_ne (by decide)])
    obtain ⟨c4, j4, h1, h2, h3, h4, h5⟩ := CL_bad (N := N) (m := m) (k := 1) (by omega) hx (by omega) H3 B3
    exact ⟨c4, _, 0, 0, h1, list_bad (by omega) B3, j4, by omega, h3, FCt.trans h5, FMt, Or.inr h4⟩
end
section
theorem e_97_0 {N e : Nat} (hN : 100 ≤ N) {c : St} {x : Int} (t : Txt N e []) : d_x2_readPart_97L N N c x e 0 = some (c, 0) := by
  obtain ⟨t1, t2, t3', t4⟩ := t
  have t3 : ∀ s, d_j0_length_8abf5 N s e = some (s, (0 : Int)) := t3'
  obtain ⟨m, hm⟩ : ∃ m, N = m + 1 := ⟨N - 1, by omega⟩
  have u : d_x2_readPart_97L N N c x e 0 = d_x2_readPart_97 N (d_x2_readPart_97L N m) c x e 0 := by
    conv => lhs; arg 2; rw [hm]
    rfl
  rw [u]
  unfold d_x2_readPart_97
  rw [if_neg t1, if_pos t2, t3, bI_some, if_neg (by decide)]
theorem e_97_1 {N e : Nat} (hN : 100 ≤ N) {c c1 : St} {x u v : Int} (t : Txt N e [u]) (h7 : c 1 7 = -1) (h : d_x2_readField N c x u = some (c1, v)) : d_x2_readPart_97L N N c x e 0 = some (c1, 0) := by
  obtain ⟨t1, t2, t3', t4⟩ := t
  have t3 : ∀ s, d_j0_length_8abf5 N s e = some (s, (1 : Int)) := t3'
  obtain ⟨m, hm⟩ : ∃ m, N = m + 2 := ⟨N - 2, by omega⟩
  have u0 : d_x2_readPart_97L N N c x e 0 = d_x2_readPart_97 N (d_x2_readPart_97L N (m + 1)) c x e 0 := by
    conv => lhs; arg 2; rw [hm]
    rfl
  have u1 : d_x2_readPart_97L N (m + 1) c1 x e (0 + 1) = some (c1, 0) := by
    show d_x2_readPart_97 N (d_x2_readPart_97L N m) c1 x e (0 + 1) = _
    unfold d_x2_readPart_97
    rw [if_neg t1, if_pos t2, t3, bI_some, if_neg (by decide)]
  have t40 : d_j0_charAt_5068e N c e 0 = some (c, u) := t4 c 0 (by show 0 < 1; decide)
  rw [u0]
  unfold d_x2_readPart_97
  rw [if_neg t1, if_pos t2, t3, bI_some, if_pos (by decide), h7, if_pos (by decide), if_neg t1, if_pos t2, t40, bI_some, h, bV_some, bd_eq, u1]
/-- two fields: the second only where the first was good -/
theorem e_97_2 {N e : Nat} (hN : 100 ≤ N) {c c1 : St} {x u y v : Int} (t : Txt N e [u, y]) (h7 : c 1 7 = -1) (h : d_x2_readField N c x u = some (c1, v)) : (∀ c2 w, c1 1 7 = -1 → d_x2_readField N c1 x y = some (c2, w) → d_x2_readPart_97L N N c x e 0 = some (c2, 0)) ∧ (0 ≤ c1 1 7 → c1 1 7 ≤ 120 → d_x2_readPart_97L N N c x e 0 = some (c1, 0)) := by
  obtain ⟨t1, t2, t3', t4⟩ := t
  have t3 : ∀ s, d_j0_length_8abf5 N s e = some (s, (2 : Int)) := t3'
  obtain ⟨m, hm⟩ : ∃ m, N = m + 3 := ⟨N - 3, by omega⟩
  have u0 : d_x2_readPart_97L N N c x e 0 = d_x2_readPart_97 N (d_x2_readPart_97L N (m + 2)) c x e 0 := by
    conv => lhs; arg 2; rw [hm]
    rfl
  have t40 : d_j0_charAt_5068e N c e 0 = some (c, u) := t4 c 0 (by show 0 < 2; decide)
  have t41 : d_j0_charAt_5068e N c1 e (0 + 1) = some (c1, y) := t4 c1 1 (by show 1 < 2; decide)
  have first : d_x2_readPart_97L N N c x e 0 = d_x2_readPart_97L N (m + 2) c1 x e (0 + 1) := by
    rw [u0]
    unfold d_x2_readPart_97
    rw [if_neg t1, if_pos t2, t3, bI_some, if_pos (by decide), h7, if_pos (by decide), if_neg t1, if_pos t2, t40, bI_some, h, bV_some, bd_eq]
  rw [first]
  refine ⟨fun c2 w g7 g => ?_, fun g0 g1 => ?_⟩
  · have u2 : d_x2_readPart_97L N (m + 1) c2 x e (0 + 1 + 1) = some (c2, 0) := by
      show d_x2_readPart_97 N (d_x2_readPart_97L N m) c2 x e (0 + 1 + 1) = _
      unfold d_x2_readPart_97
      rw [if_neg t1, if_pos t2, t3, bI_some, if_neg (by decide)]
    show d_x2_readPart_97 N (d_x2_readPart_97L N (m + 1)) c1 x e (0 + 1) = _
    unfold d_x2_readPart_97
    rw [if_neg t1, if_pos t2, t3, bI_some, if_pos (by decide), g7, if_pos (by decide), if_neg t1, if_pos t2, t41, bI_some, g, bV_some, bd_eq, u2]
  · show d_x2_readPart_97 N (d_x2_readPart_97L N (m + 1)) c1 x e (0 + 1) = _
    unfold d_x2_readPart_97
    rw [if_neg t1, if_pos t2, t3, bI_some, if_pos (by decide), w32i (x := c1 1 7) (by omega) (by omega), if_neg (by omega)]
/-- the class's fields -/
theorem e_fld {N x : Nat} (hx : x < 24) {c c1 : St} {v : Int} : (d_x2_readNum N c = some (c1, v) → d_x2_readField N c (x : Int) 110 = some (up c1 6 x v, 0)) ∧ (d_x2_readNum N c = some (c1, v) → d_x2_readField N c (x : Int) 115 = some (up c1 7 x v, 0)) ∧ (d_x2_readNumber N c 0 9999 = some (c1, v) → d_x2_readField N c (x : Int) 100 = some (up c1 6 x v, 0)) ∧ (d_x2_readNumber N c 1 9 = some (c1, v) → d_x2_readField N c (x : Int) 99 = some (up c1 6 x v, 0)) ∧ (d_x2_readSign N c (2 * 23 + 1) = some (c1, v) → d_x2_readField N c (x : Int) 111 = some (up c1 5 x v, 0)) ∧ (d_x2_readSign N c (2 * 24 + 1) = some (c1, v) → d_x2_readField N c (x : Int) 116 = some (up c1 5 x v, 0)) ∧ (d_x2_readNums N c (x : Int) = some (c1, v) → d_x2_readField N c (x : Int) 108 = some (c1, 0)) := by
  have gx : 0 ≤ (x : Int) ∧ (x : Int) < ((24 : Nat) : Int) := by omega
  have wx : w32 (x : Int) = x := w32i (by omega) (by omega)
  refine ⟨fun h => ?_, fun h => ?_, fun h => ?_, fun h => ?_, fun h => ?_, fun h => ?_, fun h => ?_⟩
  · unfold d_x2_readField
    rw [if_neg (by decide), if_neg (by decide), if_pos (by decide), h, bI_some, wx, if_pos gx, bd_eq, Int.toNat_natCast]
  · unfold d_x2_readField
    rw [if_neg (by decide), if_neg (by decide), if_neg (by decide), if_neg (by decide), if_pos (by decide), h, bI_some, wx, if_pos gx, bd_eq, Int.toNat_natCast]
  · unfold d_x2_readField
    rw [if_neg (by decide), if_pos (by decide), h, bI_some, wx, if_pos gx, bd_eq, Int.toNat_natCast]
  · unfold d_x2_readField
    rw [if_pos (by decide), h, bI_some, wx, if_pos gx, bd_eq, Int.toNat_natCast]
  · unfold d_x2_readField
    rw [if_neg (by decide), if_neg (by decide), if_neg (by decide), if_pos (by decide), h, bI_some, wx, if_pos gx, bd_eq, Int.toNat_natCast]
  · unfold d_x2_readField
    rw [if_neg (by decide), if_neg (by decide), if_neg (by decide), if_neg (by decide), if_neg (by decide), if_pos (by decide), h, bI_some, wx, if_pos gx, bd_eq, Int.toNat_natCast]
  · unfold d_x2_readField
    rw [if_neg (by decide), if_neg (by decide), if_neg (by decide), if_neg (by decide), if_neg (by decide), if_neg (by decide), if_neg (by decide), if_neg (by decide), if_neg (by decide), if_neg (by decide), if_neg (by decide), if_neg (by decide), if_neg (by decide), if_pos (by decide), h, bV_some]
end
section
/-- how far a part's rows reach -/
def SPN (c : St) (sp : Nat → Nat) (n p : Nat) : Prop := 1 ≤ sp p ∧ p + sp p ≤ n ∧ ((nro (c 4 p) = 0 ∧ sp p = 1) ∨ (nro (c 4 p) = 1 ∧ p + 1 < n ∧ sp p = 1 + sp (p + 1)) ∨ (nro (c 4 p) = 2 ∧ p + 1 < n ∧ p + 1 + sp (p + 1) < n ∧ sp p = 1 + sp (p + 1) + sp (p + 1 + sp (p + 1))))
theorem e_43 {N n p : Nat} (hN : 100 ≤ N) (hn : n ≤ 24) (hp : p < n) {k19 : St → Int → Int → Int → Option Rs} {s c : St} {sp : Nat → Nat} {x3 : Int} (h3 : x3 = 0) (T : SPN c sp n p) (h8 : ∀ q, p < q → q < n → s 8 q = (sp q : Nat)) : d_x5_close_43L N 2 1 k19 N s (n : Int) x3 (p : Int) (nro (c 4 p)) 1 0 = k19 (up s 8 p (sp p : Nat)) (n : Int) x3 ((p : Int) + (-1)) := by
  obtain ⟨m, hm⟩ : ∃ m, N = m + 3 := ⟨N - 3, by omega⟩
  subst h3
  have e82 : ∀ x6 : Nat, d_x5_close_82 N 2 1 k19 s (n : Int) 0 (p : Int) (x6 : Int) = k19 (up s 8 p (x6 : Int)) (n : Int) 0 ((p : Int) + (-1)) := by
    intro x6
    unfold d_x5_close_82
    rw [w32i (x := (p : Int)) (by omega) (by omega), if_pos (by omega), bd_eq, bd_eq, Int.toNat_natCast]
  have u : ∀ x5 x6 x7, d_x5_close_43L N 2 1 k19 N s (n : Int) 0 (p : Int) x5 x6 x7 = d_x5_close_43 N 2 1 k19 (d_x5_close_43L N 2 1 k19 (m + 2)) s (n : Int) 0 (p : Int) x5 x6 x7 := by
    intro x5 x6 x7
    conv => lhs; arg 5; rw [hm]
    rfl
  have stop : ∀ (f : Nat) (x5 x6 x7 : Nat), x5 ≤ 2 → x7 = x5 → d_x5_close_43L N 2 1 k19 (f + 1) s (n : Int) 0 (p : Int) (x5 : Int) (x6 : Int) (x7 : Int) = k19 (up s 8 p (x6 : Int)) (n : Int) 0 ((p : Int) + (-1)) := by
    intro f x5 x6 x7 h5 h7
    subst h7
    show d_x5_close_43 N 2 1 k19 (d_x5_close_43L N 2 1 k19 f) s (n : Int) 0 (p : Int) (x7 : Int) (x6 : Int) (x7 : Int) = _
    unfold d_x5_close_43
    rw [if_neg (Int.lt_irrefl _), e82]
  have step : ∀ (f : Nat) (x5 x6 x7 : Nat), x5 ≤ 2 → x7 < x5 → 1 ≤ x6 → p + x6 < n → d_x5_close_43L N 2 1 k19 (f + 1) s (n : Int) 0 (p : Int) (x5 : Int) (x6 : Int) (x7 : Int) = d_x5_close_43L N 2 1 k19 f s (n : Int) 0 (p : Int) (x5 : Int) ((x6 + sp (p + x6) : Nat) : Int) ((x7 + 1 : Nat) : Int) := by
    intro f x5 x6 x7 h5 h7 h6 hl
    show d_x5_close_43 N 2 1 k19 (d_x5_close_43L N 2 1 k19 f) s (n : Int) 0 (p : Int) (x5 : Int) (x6 : Int) (x7 : Int) = _
    unfold d_x5_close_43
    rw [w32i (x := (x7 : Int)) (by omega) (by omega), w32i (x := (x5 : Int)) (by omega) (by omega), if_pos (by omega), w32i (x := (p : Int) + (x6 : Int)) (by omega) (by omega), w32i (x := (0 : Int) + (n : Int)) (by omega) (by omega), if_pos (by omega), if_pos (by omega), bd_eq, bd_eq, show ((p : Int) + (x6 : Int)).toNat = p + x6 by omega, h8 (p + x6) (by omega) hl]
    rfl
  obtain ⟨t1, t2, t⟩ := T
  rcases t with ⟨a, e⟩ | ⟨a, b1, e⟩ | ⟨a, b1, b2, e⟩
  · rw [a, e, hm]
    have := stop (m + 2) 0 1 0 (by omega) rfl
    rw [hm] at this
    exact this
  · rw [a, e, hm]
    have s1 := step (m + 2) 1 1 0 (by omega) (by omega) (by omega) b1
    have s2 := stop (m + 1) 1 (1 + sp (p + 1)) 1 (by omega) rfl
    rw [hm] at s1 s2
    exact s1.trans s2
  · rw [a, e, hm]
    have s1 := step (m + 2) 2 1 0 (by omega) (by omega) (by omega) b1
    have s2 := step (m + 1) 2 (1 + sp (p + 1)) 1 (by omega) (by omega) (by omega) (by omega)
    have s3 := stop m 2 (1 + sp (p + 1) + sp (p + (1 + sp (p + 1)))) 2 (by omega) rfl
    rw [hm] at s1 s2 s3
    rw [show p + 1 + sp (p + 1) = p + (1 + sp (p + 1)) by omega]
    exact (s1.trans s2).trans s3
/-- the backward pass gives every part its span -/
theorem e_close {N n : Nat} (hN : 100 ≤ N) (hn : 1 ≤ n ∧ n ≤ 24) {c : St} {sp : Nat → Nat} (hk : ∀ p, p < n → 0 ≤ c 4 p ∧ c 4 p ≤ 13) (T : ∀ p, p < n → SPN c sp n p) : One (d_x5_close N 2 1 c 0 (n : Int)) (fun c' _ => c' 3 0 = n ∧ (∀ p, p < n → c' 8 p = (sp p : Nat)) ∧ ∀ a k, ¬ (a = 3 ∧ k = 0) → ¬ (a = 8 ∧ k < n) → c' a k = c a k) := by
  have loop : ∀ (f m : Nat) (s : St) (x3 x4 : Int), x3 = 0 → x4 = (f : Int) - 1 → f ≤ n → f < m → s 3 0 = n → (∀ q, f ≤ q → q < n → s 8 q = (sp q : Nat)) → (∀ a k, ¬ (a = 3 ∧ k = 0) → ¬ (a = 8 ∧ k < n) → s a k = c a k) → One (d_x5_close_19L N 2 1 m s (n : Int) x3 x4) (fun c' _ => c' 3 0 = n ∧ (∀ p, p < n → c' 8 p = (sp p : Nat)) ∧ ∀ a k, ¬ (a = 3 ∧ k = 0) → ¬ (a = 8 ∧ k < n) → c' a k = c a k) := by
    intro f
    induction f with
    | zero =>
      intro m s x3 x4 h3 h4 hf hm e3 e8 e
      obtain ⟨m, rfl⟩ : ∃ m', m = m' + 1 := ⟨m - 1, by omega⟩
      show One (d_x5_close_19 N 2 1 (d_x5_close_19L N 2 1 m) s (n : Int) x3 x4) _
      unfold d_x5_close_19
      rw [w32i (x := x4) (by omega) (by omega), w32i (x := x3) (by omega) (by omega), if_pos (by omega)]
      exact One.ret ⟨e3, fun p hp => e8 p (by omega) hp, e⟩
    | succ f ih =>
      intro m s x3 x4 h3 h4 hf hm e3 e8 e
      obtain ⟨m, rfl⟩ : ∃ m', m = m' + 1 := ⟨m - 1, by omega⟩
      have e4 : x4 = (f : Int) := by omega
      have ek : s 4 f = c 4 f := e 4 f (by omega) (by omega)
      show One (d_x5_close_19 N 2 1 (d_x5_close_19L N 2 1 m) s (n : Int) x3 x4) _
      unfold d_x5_close_19
      rw [e4, w32i (x := (f : Int)) (by omega) (by omega), w32i (x := x3) (by omega) (by omega), if_neg (by omega), if_pos (by omega), Int.toNat_natCast]
      show One (bI (d_x0_rows N s (s 4 f)) fun s5 v6 => d_x5_close_43L N 2 1 (d_x5_close_19L N 2 1 m) N s5 (n : Int) x3 (f : Int) v6 1 0) _
      rw [ek, e_rows (hk f (by omega)), bI_some, e_43 hN hn.2 (by omega) h3 (T f (by omega)) (fun q h1 h2 => e8 q (by omega) h2)]
      refine ih m _ x3 _ h3 (by omega) (by omega) (by omega) (by rw [up_ne (by decide)]; exact e3) (fun q h1 h2 => ?_) (fun a k h1 h2 => by rw [up_o (by omega)]; exact e a k h1 h2)
      by_cases y : q = f
      · rw [y, up_same]
      · rw [up_nj y]
        exact e8 q (by omega) h2
  unfold d_x5_close
  rw [if_pos (by decide), bd_eq, bd_eq, bd_eq]
  exact loop n N _ _ _ (by decide) (by omega) (Nat.le_refl _) (by omega) up_same (fun q h1 h2 => by omega) (fun a k h1 h2 => up_o h1)
end
section
theorem m_173 {N s x : Nat} (hs : s < 8) (hx : x < 24) {k83 : St → Int → Int → Option Rs} : ∀ (f m l : Nat) (r : St), l + f = 8 → f < m → ∃ r1, d_x8_text_173L N k83 m r (s : Int) (x : Int) ((24 * s + x : Nat) : Int) (l : Int) = k83 r1 (s : Int) ((x : Int) + 1) ∧ (∀ i, l ≤ i → i < 8 → r1 85 (8 * (24 * s + x) + i) = r 101 (8 * x + i)) ∧ ∀ a k, ¬ (a = 85 ∧ 8 * (24 * s + x) + l ≤ k ∧ k < 8 * (24 * s + x) + 8) → r1 a k = r a k := by
  intro f
  induction f with
  | zero =>
    intro m l r hl hm
    obtain ⟨m, rfl⟩ : ∃ m', m = m' + 1 := ⟨m - 1, by omega⟩
    refine ⟨r, ?_, fun i h1 h2 => by omega, fun _ _ _ => rfl⟩
    show d_x8_text_173 N k83 (d_x8_text_173L N k83 m) r (s : Int) (x : Int) ((24 * s + x : Nat) : Int) (l : Int) = _
    unfold d_x8_text_173
    rw [w32i (x := (l : Int)) (by omega) (by omega), if_neg (by omega), bd_eq]
  | succ f ih =>
    intro m l r hl hm
    obtain ⟨m, rfl⟩ : ∃ m', m = m' + 1 := ⟨m - 1, by omega⟩
    obtain ⟨r1, e1, e2, e3⟩ := ih m (l + 1) (up r 85 (8 * (24 * s + x) + l) (r 101 (8 * x + l))) (by omega) (by omega)
    refine ⟨r1, ?_, fun i h1 h2 => ?_, fun a k h => ?_⟩
    · show d_x8_text_173 N k83 (d_x8_text_173L N k83 m) r (s : Int) (x : Int) ((24 * s + x : Nat) : Int) (l : Int) = _
      unfold d_x8_text_173
      rw [w32i (x := (l : Int)) (by omega) (by omega), if_pos (by omega), w32i (x := 8 * (x : Int) + (l : Int)) (by omega) (by omega), if_pos (by omega), w32i (x := 8 * ((24 * s + x : Nat) : Int) + (l : Int)) (by omega) (by omega), if_pos (by omega), bd_eq, bd_eq, show (8 * ((24 * s + x : Nat) : Int) + (l : Int)).toNat = 8 * (24 * s + x) + l by omega, show (8 * (x : Int) + (l : Int)).toNat = 8 * x + l by omega]
      exact e1
    · by_cases q : i = l
      · rw [q, e3 85 _ (by omega), up_same]
      · rw [e2 i (by omega) h2, up_ne (by decide)]
    · rw [e3 a k (by omega), up_o (by omega)]
/-- what the model has read lies in its texts -/
def CPY (r r' : St) (s i n : Nat) : Prop := (∀ p, i ≤ p → p < n → (r' 79 (24 * s + p) = r 95 p ∧ r' 80 (24 * s + p) = r 96 p ∧ r' 81 (24 * s + p) = r 97 p ∧ r' 82 (24 * s + p) = r 98 p ∧ r' 83 (24 * s + p) = r 99 p ∧ r' 84 (24 * s + p) = r 100 p) ∧ ∀ l, l < 8 → r' 85 (8 * (24 * s + p) + l) = r 101 (8 * p + l)) ∧ ∀ a k, ¬ (79 ≤ a ∧ a ≤ 84 ∧ 24 * s + i ≤ k ∧ k < 24 * s + n) → ¬ (a = 85 ∧ 8 * (24 * s + i) ≤ k ∧ k < 8 * (24 * s + n)) → r' a k = r a k
theorem m_copy {N s n : Nat} (hN : 100 ≤ N) (hs : s < 8) (hn : n ≤ 24) : ∀ (f m i : Nat) (r : St), i + f = n → f < m → r 77 26 = n → ∃ r', d_x8_text_83L N m r (s : Int) (i : Int) = (bV (d_x8_untells N r') fun s4 => some (s4, (s4 77 26))) ∧ CPY r r' s i n := by
  intro f
  induction f with
  | zero =>
    intro m i r hi hm h26
    obtain ⟨m, rfl⟩ : ∃ m', m = m' + 1 := ⟨m - 1, by omega⟩
    refine ⟨r, ?_, fun p h1 h2 => by omega, fun _ _ _ _ => rfl⟩
    show d_x8_text_83 N (d_x8_text_83L N m) r (s : Int) (i : Int) = _
    unfold d_x8_text_83
    rw [h26, show i = n by omega, if_neg (Int.lt_irrefl _)]
  | succ f ih =>
    intro m i r hi hm h26
    obtain ⟨m, rfl⟩ : ∃ m', m = m' + 1 := ⟨m - 1, by omega⟩
    obtain ⟨r1, e1, e2, e3⟩ := m_173 (N := N) (x := i) hs (by omega) (k83 := d_x8_text_83L N m) 8 N 0 (up (up (up (up (up (up r 79 (24 * s + i) (r 95 i)) 80 (24 * s + i) (r 96 i)) 81 (24 * s + i) (r 97 i)) 82 (24 * s + i) (r 98 i)) 83 (24 * s + i) (r 99 i)) 84 (24 * s + i) (r 100 i)) (by omega) (by omega)
    have o : ∀ a k, ¬ (79 ≤ a ∧ a ≤ 84 ∧ k = 24 * s + i) → ¬ (a = 85 ∧ 8 * (24 * s + i) ≤ k ∧ k < 8 * (24 * s + i) + 8) → r1 a k = r a k := fun a k h1 h2 => by
      rw [e3 a k (by omega), up_o (by omega), up_o (by omega), up_o (by omega), up_o (by omega), up_o (by omega), up_o (by omega)]
    obtain ⟨r', g1, g2, g3⟩ := ih m (i + 1) r1 (by omega) (by omega) (by rw [o 77 26 (by omega) (by omega)]; exact h26)
    refine ⟨r', ?_, fun p h1 h2 => ?_, fun a k h1 h2 => ?_⟩
    · show d_x8_text_83 N (d_x8_text_83L N m) r (s : Int) (i : Int) = _
      unfold d_x8_text_83
      have gi : 0 ≤ (i : Int) ∧ (i : Int) < ((24 : Nat) : Int) := by omega
      have gv : 0 ≤ ((24 * s + i : Nat) : Int) ∧ ((24 * s + i : Nat) : Int) < ((192 : Nat) : Int) := by omega
      have ev : 24 * (s : Int) + (i : Int) = ((24 * s + i : Nat) : Int) := by omega
      rw [h26, w32i (x := (i : Int)) (by omega) (by omega), w32i (x := (n : Int)) (by omega) (by omega), if_pos (by omega), ev, bd_eq, w32i (x := ((24 * s + i : Nat) : Int)) (by omega) (by omega), if_pos gi, if_pos gv, bd_eq, if_pos gi, if_pos gv, bd_eq, if_pos gi, if_pos gv, bd_eq, if_pos gi, if_pos gv, bd_eq, if_pos gi, if_pos gv, bd_eq, if_pos gi, if_pos gv, bd_eq, Int.toNat_natCast, Int.toNat_natCast]
      simp only [up_ne (show (96 : Nat) ≠ 79 by decide), up_ne (show (97 : Nat) ≠ 80 by decide), up_ne (show (97 : Nat) ≠ 79 by decide), up_ne (show (98 : Nat) ≠ 81 by decide), up_ne (show (98 : Nat) ≠ 80 by decide), up_ne (show (98 : Nat) ≠ 79 by decide), up_ne (show (99 : Nat) ≠ 82 by decide), up_ne (show (99 : Nat) ≠ 81 by decide), up_ne (show (99 : Nat) ≠ 80 by decide), up_ne (show (99 : Nat) ≠ 79 by decide), up_ne (show (100 : Nat) ≠ 83 by decide), up_ne (show (100 : Nat) ≠ 82 by decide), up_ne (show (100 : Nat) ≠ 81 by decide), up_ne (show (100 : Nat) ≠ 80 by decide), up_ne (show (100 : Nat) ≠ 79 by decide)]
      exact e1.trans g1
    · by_cases q : p = i
      · subst q
        refine ⟨⟨?_, ?_, ?_, ?_, ?_, ?_⟩, fun l hl => ?_⟩
        · rw [g3 _ _ (by omega) (by omega), e3 _ _ (by omega), up_ne (by decide), up_ne (by decide), up_ne (by decide), up_ne (by decide), up_ne (by decide), up_same]
        · rw [g3 _ _ (by omega) (by omega), e3 _ _ (by omega), up_ne (by decide), up_ne (by decide), up_ne (by decide), up_ne (by decide), up_same]
        · rw [g3 _ _ (by omega) (by omega), e3 _ _ (by omega), up_ne (by decide), up_ne (by decide), up_ne (by decide), up_same]
        · rw [g3 _ _ (by omega) (by omega), e3 _ _ (by omega), up_ne (by decide), up_ne (by decide), up_same]
        · rw [g3 _ _ (by omega) (by omega), e3 _ _ (by omega), up_ne (by decide), up_same]
        · rw [g3 _ _ (by omega) (by omega), e3 _ _ (by omega), up_same]
        · rw [g3 _ _ (by omega) (by omega), e2 l (by omega) hl, up_ne (by decide), up_ne (by decide), up_ne (by decide), up_ne (by decide), up_ne (by decide), up_ne (by decide)]
      · have g := g2 p (by omega) h2
        have e5 := fun a k (h : 95 ≤ a) => o a k (by omega) (by omega)
        rw [e5 95 p (by omega), e5 96 p (by omega), e5 97 p (by omega), e5 98 p (by omega), e5 99 p (by omega), e5 100 p (by omega)] at g
        exact ⟨g.1, fun l hl => by rw [g.2 l hl, e5 101 _ (by omega)]⟩
    · rw [g3 a k (by omega) (by omega)]
      exact o a k (by omega) (by omega)
end
section
/-- what the class has read lies in its texts -/
theorem e_tkR {N s n : Nat} {c : St} (hs : s < 8) (hn : c 3 0 = n) (h24 : n ≤ 24) : One (d_x5_takeStream N 17 8 2 1 c 0 (s : Int)) (fun d _ => d 18 s = n ∧ (∀ p, p < n → (d 19 (24 * s + p) = c 4 p ∧ d 20 (24 * s + p) = c 5 p ∧ d 21 (24 * s + p) = c 6 p ∧ d 22 (24 * s + p) = c 7 p ∧ d 23 (24 * s + p) = c 8 p ∧ d 24 (24 * s + p) = c 9 p) ∧ ∀ l, l < 8 → d 25 (8 * (24 * s + p) + l) = c 10 (8 * p + l)) ∧ ∀ a k, ¬ (a = 18 ∧ k = s) → ¬ (19 ≤ a ∧ a ≤ 24 ∧ 24 * s ≤ k ∧ k < 24 * s + n) → ¬ (a = 25 ∧ 8 * (24 * s) ≤ k ∧ k < 8 * (24 * s + n)) → d a k = c a k) := by
  have gs : 0 ≤ (s : Int) ∧ (s : Int) < ((8 : Nat) : Int) := by omega
  have e : d_x5_takeStream N 17 8 2 1 c 0 (s : Int) = some (cp (cp (cp (cp (cp (cp (cp (up c 18 s (n : Int)) 4 0 19 (24 * s) n) 5 0 20 (24 * s) n) 6 0 21 (24 * s) n) 7 0 22 (24 * s) n) 8 0 23 (24 * s) n) 9 0 24 (24 * s) n) 10 0 25 (8 * (24 * s)) (8 * n), 0) := by
    unfold d_x5_takeStream
    have z : (0 : Int).toNat = 0 := rfl
    rw [w32_0, if_pos (by decide), w32i (x := (s : Int)) (by omega) (by omega), if_pos gs, bd_eq, if_pos gs, Int.toNat_natCast, z]
    show bV (d_x5_takeParts N 17 8 2 1 (up c 18 s (c 3 0)) (0 * 24) ((s : Int) * 24) (up c 18 s (c 3 0) 18 s)) (fun s2 => some (s2, 0)) = _
    rw [up_same, hn]
    unfold d_x5_takeParts
    have a1 : w32 ((0 : Int) * 24) = 0 := rfl
    have a2 : w32 ((s : Int) * 24) = (s : Int) * 24 := w32i (by omega) (by omega)
    have a3 : w32 (n : Int) = n := w32i (by omega) (by omega)
    have b1 : w32 ((0 : Int) * 24 * 8) = 0 := rfl
    have b2 : w32 ((s : Int) * 24 * 8) = (s : Int) * 24 * 8 := w32i (by omega) (by omega)
    have b3 : w32 ((n : Int) * 8) = (n : Int) * 8 := w32i (by omega) (by omega)
    have t2 : ((s : Int) * 24).toNat = 24 * s := by omega
    have t2' : ((s : Int) * 24 * 8).toNat = 8 * (24 * s) := by omega
    have t3' : ((n : Int) * 8).toNat = 8 * n := by omega
    have g : 0 ≤ (n : Int) ∧ (0 : Int) ≤ 0 ∧ 0 ≤ (s : Int) * 24 ∧ (0 : Int) + (n : Int) ≤ ((1 * 24 : Nat) : Int) ∧ (s : Int) * 24 + (n : Int) ≤ ((8 * 24 : Nat) : Int) := by omega
    have g' : 0 ≤ (n : Int) * 8 ∧ (0 : Int) ≤ 0 ∧ 0 ≤ (s : Int) * 24 * 8 ∧ (0 : Int) + (n : Int) * 8 ≤ ((1 * 192 : Nat) : Int) ∧ (s : Int) * 24 * 8 + (n : Int) * 8 ≤ ((8 * 192 : Nat) : Int) := by omega
    rw [a1, a2, a3, b1, b2, b3, if_pos g, bd_eq, if_pos g, bd_eq, if_pos g, bd_eq, if_pos g, bd_eq, if_pos g, bd_eq, if_pos g, bd_eq, if_pos g', bd_eq, t2, t2', t3', Int.toNat_natCast, z, bV_some]
  rw [e]
  refine One.ret ⟨?_, fun p hp => ⟨⟨?_, ?_, ?_, ?_, ?_, ?_⟩, fun l hl => ?_⟩, fun a k h1 h2 h3 => ?_⟩
  · rw [cp_ne (by decide), cp_ne (by decide), cp_ne (by decide), cp_ne (by decide), cp_ne (by decide), cp_ne (by decide), cp_ne (by decide), up_same]
  · rw [cp_ne (by decide), cp_ne (by decide), cp_ne (by decide), cp_ne (by decide), cp_ne (by decide), cp_ne (by decide), cp_app, if_pos (by omega), up_ne (by decide), show 0 + (24 * s + p - 24 * s) = p by omega]
  · rw [cp_ne (by decide), cp_ne (by decide), cp_ne (by decide), cp_ne (by decide), cp_ne (by decide), cp_app, if_pos (by omega), cp_ne (by decide), up_ne (by decide), show 0 + (24 * s + p - 24 * s) = p by omega]
  · rw [cp_ne (by decide), cp_ne (by decide), cp_ne (by decide), cp_ne (by decide), cp_app, if_pos (by omega), cp_ne (by decide), cp_ne (by decide), up_ne (by decide), show 0 + (24 * s + p - 24 * s) = p by omega]
  · rw [cp_ne (by decide), cp_ne (by decide), cp_ne (by decide), cp_app, if_pos (by omega), cp_ne (by decide), cp_ne (by decide), cp_ne (by decide), up_ne (by decide), show 0 + (24 * s + p - 24 * s) = p by omega]
  · rw [cp_ne (by decide), cp_ne (by decide), cp_app, if_pos (by omega), cp_ne (by decide), cp_ne (by decide), cp_ne (by decide), cp_ne (by decide), up_ne (by decide), show 0 + (24 * s + p - 24 * s) = p by omega]
  · rw [cp_ne (by decide), cp_app, if_pos (by omega), cp_ne (by decide), cp_ne (by decide), cp_ne (by decide), cp_ne (by decide), cp_ne (by decide), up_ne (by decide), show 0 + (24 * s + p - 24 * s) = p by omega]
  · rw [cp_app, if_pos (by omega), cp_ne (by decide), cp_ne (by decide), cp_ne (by decide), cp_ne (by decide), cp_ne (by decide), cp_ne (by decide), up_ne (by decide), show 0 + (8 * (24 * s + p) + l - 8 * (24 * s)) = 8 * p + l by omega]
  · rw [cp_app, if_neg (by omega), cp_app, if_neg (by omega), cp_app, if_neg (by omega), cp_app, if_neg (by omega), cp_app, if_neg (by omega), cp_app, if_neg (by omega), cp_app, if_neg (by omega), up_o h1]
end
section
/-! one part read: frames -/
def FCr (x y : Nat) (c c' : St) : Prop := ∀ a k, ¬ (a = 1 ∧ (k = 6 ∨ k = 7)) → ¬ (4 ≤ a ∧ a ≤ 9 ∧ x ≤ k ∧ k < y) → ¬ (a = 10 ∧ 8 * x ≤ k ∧ k < 8 * y) → c' a k = c a k
def FMr (x y : Nat) (r r' : St) : Prop := ∀ a k, ¬ (a = 77 ∧ 20 ≤ k ∧ k ≤ 26) → ¬ (95 ≤ a ∧ a ≤ 100 ∧ x ≤ k ∧ k < y) → ¬ (a = 101 ∧ 8 * x ≤ k ∧ k < 8 * y) → r' a k = r a k
theorem FCr.refl {x y : Nat} {c : St} : FCr x y c c := fun _ _ _ _ _ => rfl
theorem FMr.refl {x y : Nat} {c : St} : FMr x y c c := fun _ _ _ _ _ => rfl
theorem FCr.trans {x y w z : Nat} {a b c : St} (h : FCr x y a b) (g : FCr w z b c) (hx : x ≤ w) (hy : y ≤ z) (hxy : w ≤ y) : FCr x z a c := fun i k p q s => (g i k p (by omega) (by omega)).trans (h i k p (by omega) (by omega))
theorem FMr.trans {x y w z : Nat} {a b c : St} (h : FMr x y a b) (g : FMr w z b c) (hx : x ≤ w) (hy : y ≤ z) (hxy : w ≤ y) : FMr x z a c := fun i k p q s => (g i k p (by omega) (by omega)).trans (h i k p (by omega) (by omega))
theorem FC.fr {x y : Nat} {a b : St} (h : FC a b) : FCr x y a b := fun i k p _ _ => h i k p
theorem FM.fr {x y : Nat} {a b : St} (h : FM a b) : FMr x y a b := fun i k p _ _ => h i k (by omega)
theorem FC2.fr {x : Nat} {a b : St} (h : FC2 x a b) : FCr x (x + 1) a b := fun i k p q s => h i k p (by omega) (by omega)
theorem FM2.fr {x : Nat} {a b : St} (h : FM2 x a b) : FMr x (x + 1) a b := fun i k p q s => h i k (by omega) (by omega) (by omega)
theorem FCr.up {x a : Nat} {c c' : St} {v : Int} (h : FCr x (x + 1) c c') (ha : 4 ≤ a ∧ a ≤ 9) : FCr x (x + 1) c (up c' a x v) := fun i k p q s => (up_o (by omega)).trans (h i k p q s)
theorem FMr.up {x a : Nat} {c c' : St} {v : Int} (h : FMr x (x + 1) c c') (ha : 95 ≤ a ∧ a ≤ 100) : FMr x (x + 1) c (up c' a x v) := fun i k p q s => (up_o (by omega)).trans (h i k p q s)
theorem RD.upc {c r : St} {b : Nat → Int} {z n j a x : Nat} {v : Int} (H : RD c r b z n j) (ha : 4 ≤ a ∧ a ≤ 9) : RD (up c a x v) r b z n j := H.cong (fun i k h => up_ne (by omega)) (fun _ _ _ => rfl)
theorem RD.upr {c r : St} {b : Nat → Int} {z n j a x : Nat} {v : Int} (H : RD c r b z n j) (ha : 95 ≤ a ∧ a ≤ 100) : RD c (up r a x v) b z n j := H.cong (fun _ _ _ => rfl) (fun i k h => up_ne (by omega))
theorem gd.upc {c r : St} {b : Nat → Int} {z j a x : Nat} {v : Int} (H : gd c r b z j) (ha : 4 ≤ a ∧ a ≤ 9) : gd (up c a x v) r b z j := H.cong (fun k => up_ne (by omega)) (fun _ => rfl)
theorem gd.upr {c r : St} {b : Nat → Int} {z j a x : Nat} {v : Int} (H : gd c r b z j) (ha : 95 ≤ a ∧ a ≤ 100) : gd c (up r a x v) b z j := H.cong (fun _ => rfl) (fun k => up_ne (by omega))
theorem bad.upc {c r : St} {a x : Nat} {v : Int} (H : bad c r) (ha : 4 ≤ a ∧ a ≤ 9) : bad (up c a x v) r := H.cong (fun k => up_ne (by omega)) (fun _ => rfl)
theorem bad.upr {c r : St} {a x : Nat} {v : Int} (H : bad c r) (ha : 95 ≤ a ∧ a ≤ 100) : bad c (up r a x v) := H.cong (fun _ => rfl) (fun k => up_ne (by omega))
/-! the model's row behind its word -/
theorem q149n {N x : Nat} (hx : x < 24) {g : St → Option Rs} {s : St} {k v : Int} (hk : 0 ≤ k ∧ k ≤ 13) (h : s 77 24 = 1 ∨ ¬ (k = 1 ∨ k = 3 ∨ k = 4 ∨ k = 5 ∨ k = 12)) : d_x8_row_149 N g s (x : Int) k v (x : Int) = d_x8_row_193 N g (up s 96 x v) (x : Int) k := by
  unfold d_x8_row_149
  rw [w32i (x := (x : Int)) (by omega) (by omega), if_pos (by omega), bd_eq, Int.toNat_natCast, up_ne (show (77 : Nat) ≠ 96 by decide), w32i (x := k) (by omega) (by omega)]
  rcases h with h | h
  · rw [h, if_neg (by decide)]
  · rw [if_neg (show ¬ k = 1 by omega), if_neg (show ¬ k = 3 by omega), if_neg (show ¬ k = 4 by omega), if_neg (show ¬ k = 5 by omega), if_neg (show ¬ k = 12 by omega)]
    split <;> rfl
theorem q149y {N x : Nat} (hx : x < 24) {g : St → Option Rs} {s : St} {k v : Int} (h0 : s 77 24 = 0) (h : k = 1 ∨ k = 3 ∨ k = 4 ∨ k = 5 ∨ k = 12) : d_x8_row_149 N g s (x : Int) k v (x : Int) = d_x8_row_183 N g (up s 96 x v) (x : Int) k := by
  unfold d_x8_row_149
  rw [w32i (x := (x : Int)) (by omega) (by omega), if_pos (by omega), bd_eq, Int.toNat_natCast, up_ne (show (77 : Nat) ≠ 96 by decide), h0, if_pos w32_0, w32i (x := k) (by omega) (by omega)]
  rcases h with h | h | h | h | h <;> subst h <;> rfl
theorem q183 {N x : Nat} (hx : x < 24) {g : St → Option Rs} {s s' : St} {k w : Int} (h : d_x8_num N s = some (s', w)) : d_x8_row_183 N g s (x : Int) k = d_x8_row_193 N g (up s' 98 x w) (x : Int) k := by
  unfold d_x8_row_183
  rw [h, bI_some, w32i (x := (x : Int)) (by omega) (by omega), if_pos (by omega), bd_eq, Int.toNat_natCast]
theorem q193n {N x : Nat} {g : St → Option Rs} {s : St} {k : Int} (hk : 0 ≤ k ∧ k ≤ 13) (h : s 77 24 = 1 ∨ ¬ (k = 8 ∨ k = 9 ∨ k = 13)) : d_x8_row_193 N g s (x : Int) k = d_x8_row_253 N g s (x : Int) k := by
  unfold d_x8_row_193
  rw [w32i (x := k) (by omega) (by omega)]
  rcases h with h | h
  · rw [h, if_neg (by decide)]
  · rw [if_neg (show ¬ k = 8 by omega), if_neg (show ¬ k = 9 by omega), if_neg (show ¬ k = 13 by omega)]
    split <;> rfl
theorem q193d {N x : Nat} (hx : x < 24) {g : St → Option Rs} {s s' : St} {k w : Int} (h0 : s 77 24 = 0) (hk : k = 8 ∨ k = 9) (h : d_x8_plain N s 0 9999 = some (s', w)) : d_x8_row_193 N g s (x : Int) k = d_x8_row_253 N g (up s' 98 x w) (x : Int) k := by
  have e : d_x8_row_249 N g s (x : Int) k 9999 0 (x : Int) = d_x8_row_253 N g (up s' 98 x w) (x : Int) k := by
    unfold d_x8_row_249
    rw [h, bI_some, w32i (x := (x : Int)) (by omega) (by omega), if_pos (by omega), bd_eq, Int.toNat_natCast]
  rw [← e]
  unfold d_x8_row_193 d_x8_row_218 d_x8_row_235
  rw [h0, if_pos w32_0]
  rcases hk with hk | hk <;> subst hk <;> rfl
theorem q193c {N x : Nat} (hx : x < 24) {g : St → Option Rs} {s s' : St} {w : Int} (h0 : s 77 24 = 0) (h : d_x8_plain N s 1 9 = some (s', w)) : d_x8_row_193 N g s (x : Int) 13 = d_x8_row_253 N g (up s' 98 x w) (x : Int) 13 := by
  have e : d_x8_row_249 N g s (x : Int) 13 9 1 (x : Int) = d_x8_row_253 N g (up s' 98 x w) (x : Int) 13 := by
    unfold d_x8_row_249
    rw [h, bI_some, w32i (x := (x : Int)) (by omega) (by omega), if_pos (by omega), bd_eq, Int.toNat_natCast]
  rw [← e]
  unfold d_x8_row_193 d_x8_row_218 d_x8_row_235
  rw [h0, if_pos w32_0]
  rfl
theorem q253n {N x : Nat} {g : St → Option Rs} {s : St} {k : Int} (hk : 0 ≤ k ∧ k ≤ 13) (h : s 77 24 = 1 ∨ k ≠ 1) : d_x8_row_253 N g s (x : Int) k = d_x8_row_275 N g s (x : Int) k := by
  unfold d_x8_row_253
  rw [w32i (x := k) (by omega) (by omega)]
  rcases h with h | h
  · rw [h, if_neg (by decide)]
  · rw [if_neg h]
    split <;> rfl
theorem q253y {N x : Nat} (hx : x < 24) {g : St → Option Rs} {s s' : St} {w : Int} (h0 : s 77 24 = 0) (h : d_x8_num N s = some (s', w)) : d_x8_row_253 N g s (x : Int) 1 = d_x8_row_275 N g (up s' 99 x w) (x : Int) 1 := by
  unfold d_x8_row_253
  rw [h0, if_pos w32_0, if_pos w32_1, h, bI_some, w32i (x := (x : Int)) (by omega) (by omega), if_pos (by omega), bd_eq, Int.toNat_natCast]
theorem q275n {N x : Nat} {g : St → Option Rs} {s : St} {k : Int} (hk : 0 ≤ k ∧ k ≤ 13) (h : s 77 24 = 1 ∨ k ≠ 2) : d_x8_row_275 N g s (x : Int) k = d_x8_row_292 N g s (x : Int) k := by
  unfold d_x8_row_275
  rw [w32i (x := k) (by omega) (by omega)]
  rcases h with h | h
  · rw [h, if_neg (by decide)]
  · rw [if_neg h]
    split <;> rfl
theorem q275y {N x : Nat} {g : St → Option Rs} {s s' : St} {w : Int} (h0 : s 77 24 = 0) (h : d_x8_list N s (x : Int) = some (s', w)) : d_x8_row_275 N g s (x : Int) 2 = d_x8_row_292 N g s' (x : Int) 2 := by
  unfold d_x8_row_275
  rw [h0, if_pos w32_0, if_pos (show w32 2 = 2 from rfl), h, bV_some]
/-! what a part must be -/
def KO (k o v m : Int) : Prop := -9999 ≤ v ∧ v ≤ 9999 ∧ (k = 0 → 0 ≤ v ∧ v ≤ 7) ∧ (k = 2 → 1 ≤ m ∧ m ≤ 8) ∧ (k ≠ 2 → m = 0) ∧ (k = 8 ∨ k = 9 → 0 ≤ v) ∧ (k = 13 → 1 ≤ v ∧ v ≤ 9) ∧ (k = 3 ∨ k = 6 ∨ k = 10 → o = 42 ∨ o = 43 ∨ o = 45 ∨ o = 47 ∨ o = 37) ∧ (k = 4 ∨ k = 5 → o = 60 ∨ o = 61 ∨ o = 62 ∨ o = 37) ∧ (¬ (k = 3 ∨ k = 4 ∨ k = 5 ∨ k = 6 ∨ k = 10) → o = 0)
def PK (c r : St) (x : Nat) : Prop := (r 95 x = c 4 x ∧ r 96 x = c 5 x ∧ r 98 x = c 6 x ∧ r 100 x = c 9 x) ∧ KO (c 4 x) (c 5 x) (c 6 x) (c 9 x) ∧ (c 4 x = 1 → r 99 x = c 7 x ∧ -9999 ≤ c 7 x ∧ c 7 x ≤ 9999) ∧ (c 4 x = 2 → ∀ i : Nat, (i : Int) < c 9 x → r 101 (8 * x + i) = c 10 (8 * x + i) ∧ -9999 ≤ c 10 (8 * x + i) ∧ c 10 (8 * x + i) ≤ 9999)
theorem PK.mk {c r : St} {x : Nat} {k o v m : Int} (h4 : c 4 x = k) (h5 : c 5 x = o) (h6 : c 6 x = v) (h9 : c 9 x = m) (g4 : r 95 x = k) (g5 : r 96 x = o) (g6 : r 98 x = v) (g9 : r 100 x = m) (ko : KO k o v m) (h1 : k = 1 → r 99 x = c 7 x ∧ -9999 ≤ c 7 x ∧ c 7 x ≤ 9999) (h2 : k = 2 → ∀ i : Nat, (i : Int) < m → r 101 (8 * x + i) = c 10 (8 * x + i) ∧ -9999 ≤ c 10 (8 * x + i) ∧ c 10 (8 * x + i) ≤ 9999) : PK c r x := by
  unfold PK
  rw [h4, h5, h6, h9]
  exact ⟨⟨g4, g5, g6, g9⟩, ko, h1, h2⟩
/-- TOKENS of a part, at least -/
def tkc (k m : Int) : Int := if k = 0 ∨ k = 7 ∨ k = 11 then 1 else if k = 1 ∨ k = 3 ∨ k = 4 ∨ k = 5 then 3 else if k = 2 then 2 * m else 2
def INI (c r : St) (x : Nat) (k v : Int) : Prop := c 4 x = k ∧ c 5 x = 0 ∧ c 6 x = v ∧ c 7 x = 0 ∧ c 9 x = 0 ∧ r 95 x = k ∧ r 98 x = v ∧ r 100 x = 0
/-- a part's fields were read from TOKEN j on -/
def PQ (x : Nat) (k : Int) (b : Nat → Int) (z n j : Nat) (c r c' r' : St) : Prop := ∃ j', j ≤ j' ∧ RD c' r' b z n j' ∧ FCr x (x + 1) c c' ∧ FMr x (x + 1) r r' ∧ r' 77 26 = r 77 26 ∧ c' 4 x = k ∧ ((gd c' r' b z j' ∧ (j : Int) + tkc k (c' 9 x) ≤ (j' : Int) + 1 ∧ PK c' r' x) ∨ bad c' r')
end
section
theorem p_none {N x : Nat} (hN : 500 ≤ N) (hx : x < 24) {g : St → Option Rs} {c r : St} {b : Nat → Int} {z n j : Nat} {k v : Int} (hk : k = 0 ∨ k = 7 ∨ k = 11) (hv : 0 ≤ v ∧ v ≤ 7) (H : RD c r b z n j) (G : gd c r b z j) (I : INI c r x k v) : ∃ c' r', d_x2_readPart_97L N N c (x : Int) (2 * 14 + 1) 0 = some (c', 0) ∧ d_x8_row_149 N g r (x : Int) k 0 (x : Int) = d_x8_row_292 N g r' (x : Int) k ∧ PQ x k b z n j c r c' r' := by
  obtain ⟨i4, i5, i6, i7, i9, m95, m98, m100⟩ := I
  refine ⟨c, up r 96 x 0, e_97_0 (by omega) (tx_all (i := 14) (by decide)), ?_, j, Nat.le_refl _, H.upr (by omega), FCr.refl, FMr.refl.up (by omega), up_ne (by decide), i4, Or.inl ⟨G.upr (by omega), ?_, ?_⟩⟩
  · rw [q149n hx (by omega) (Or.inr (by omega)), q193n (by omega) (Or.inr (by omega)), q253n (by omega) (Or.inr (by omega)), q275n (by omega) (Or.inr (by omega))]
  · unfold tkc
    rw [if_pos hk]
    omega
  · refine PK.mk (k := k) (o := 0) (v := v) (m := 0) i4 i5 i6 i9 ?_ up_same ?_ ?_ (by unfold KO; omega) (fun e => by omega) (fun e => by omega)
    · rw [up_ne (by decide)]; exact m95
    · rw [up_ne (by decide)]; exact m98
    · rw [up_ne (by decide)]; exact m100
theorem p_n {N x : Nat} (hN : 500 ≤ N) (hx : x < 24) {g : St → Option Rs} {c r : St} {b : Nat → Int} {z n j : Nat} (H : RD c r b z n j) (G : gd c r b z j) (I : INI c r x 12 0) : ∃ c' r', d_x2_readPart_97L N N c (x : Int) (2 * 21 + 1) 0 = some (c', 0) ∧ d_x8_row_149 N g r (x : Int) 12 0 (x : Int) = d_x8_row_292 N g r' (x : Int) 12 ∧ PQ x 12 b z n j c r c' r' := by
  obtain ⟨i4, i5, i6, i7, i9, m95, m98, m100⟩ := I
  obtain ⟨c1, r1, v, w, f1, f2, j1, f3, f4, f5', f6', f7⟩ := r_num hN (H.upr (a := 96) (x := x) (v := 0) (by omega)) (G.upr (by omega))
  have f5 : ∀ a k, ¬ (a = 1 ∧ (k = 6 ∨ k = 7)) → c1 a k = c a k := f5'
  have f6 : ∀ y k, ¬ (y = 77 ∧ 20 ≤ k ∧ k ≤ 25) → r1 y k = up r 96 x 0 y k := f6'
  refine ⟨up c1 6 x v, up r1 98 x w, e_97_1 (by omega) (tx_all (i := 21) (by decide)) G.1 ((e_fld hx).1 f1), ?_, j1, f3, (f4.upc (by omega)).upr (by omega), f5'.fr.up (by omega), ((FMr.refl.up (by omega)).trans f6'.fr (Nat.le_refl _) (Nat.le_refl _) (by omega)).up (by omega), (by simp (disch := omega) only [up_ne, up_same, f5, f6, i4, i5, i6, i7, i9, m95, m98, m100]), (by simp (disch := omega) only [up_ne, up_same, f5, f6, i4, i5, i6, i7, i9, m95, m98, m100]), ?_⟩
  · rw [q149y hx G.2.1 (by omega), q183 hx f2, q193n (by omega) (Or.inr (by omega)), q253n (by omega) (Or.inr (by omega)), q275n (by omega) (Or.inr (by omega))]
  · rcases f7 with ⟨g1, g2, hw, g4⟩ | f7
    · refine Or.inl ⟨(g1.upc (by omega)).upr (by omega), ?_, PK.mk (k := 12) (o := 0) (v := v) (m := 0) (by simp (disch := omega) only [up_ne, up_same, f5, f6, i4, i5, i6, i7, i9, m95, m98, m100]) (by simp (disch := omega) only [up_ne, up_same, f5, f6, i4, i5, i6, i7, i9, m95, m98, m100]) (by simp (disch := omega) only [up_ne, up_same, f5, f6, i4, i5, i6, i7, i9, m95, m98, m100]) (by simp (disch := omega) only [up_ne, up_same, f5, f6, i4, i5, i6, i7, i9, m95, m98, m100]) (by simp (disch := omega) only [up_ne, up_same, f5, f6, i4, i5, i6, i7, i9, m95, m98, m100]) (by simp (disch := omega) only [up_ne, up_same, f5, f6, i4, i5, i6, i7, i9, m95, m98, m100]) (by simp (disch := omega) only [up_ne, up_same, f5, f6, hw, i4, i5, i6, i7, i9, m95, m98, m100]) (by simp (disch := omega) only [up_ne, up_same, f5, f6, i4, i5, i6, i7, i9, m95, m98, m100]) (by unfold KO; omega) (fun e => by omega) (fun e => by omega)⟩
      show (j : Int) + 2 ≤ (j1 : Int) + 1
      omega
    · exact Or.inr ((f7.upc (by omega)).upr (by omega))
theorem p_d {N x : Nat} (hN : 500 ≤ N) (hx : x < 24) {g : St → Option Rs} {c r : St} {b : Nat → Int} {z n j : Nat} {k : Int} (hk : k = 8 ∨ k = 9) (H : RD c r b z n j) (G : gd c r b z j) (I : INI c r x k 0) : ∃ c' r', d_x2_readPart_97L N N c (x : Int) (2 * 20 + 1) 0 = some (c', 0) ∧ d_x8_row_149 N g r (x : Int) k 0 (x : Int) = d_x8_row_292 N g r' (x : Int) k ∧ PQ x k b z n j c r c' r' := by
  obtain ⟨i4, i5, i6, i7, i9, m95, m98, m100⟩ := I
  obtain ⟨c1, r1, v, w, f1, f2, j1, f3, f4, f5', f6', f7⟩ := r_numb hN (lo := 0) (hi := 9999) (H.upr (a := 96) (x := x) (v := 0) (by omega)) (G.upr (by omega)) (by decide) (by decide)
  have f5 : ∀ a k, ¬ (a = 1 ∧ (k = 6 ∨ k = 7)) → c1 a k = c a k := f5'
  have f6 : ∀ y k, ¬ (y = 77 ∧ 20 ≤ k ∧ k ≤ 25) → r1 y k = up r 96 x 0 y k := f6'
  refine ⟨up c1 6 x v, up r1 98 x w, e_97_1 (by omega) (tx_all (i := 20) (by decide)) G.1 ((e_fld hx).2.2.1 f1), ?_, j1, f3, (f4.upc (by omega)).upr (by omega), f5'.fr.up (by omega), ((FMr.refl.up (by omega)).trans f6'.fr (Nat.le_refl _) (Nat.le_refl _) (by omega)).up (by omega), (by simp (disch := omega) only [up_ne, up_same, f5, f6, i4, i5, i6, i7, i9, m95, m98, m100]), (by simp (disch := omega) only [up_ne, up_same, f5, f6, i4, i5, i6, i7, i9, m95, m98, m100]), ?_⟩
  · rw [q149n hx (by omega) (Or.inr (by omega)), q193d hx (by rw [up_ne (by decide)]; exact G.2.1) hk f2, q253n (by omega) (Or.inr (by omega)), q275n (by omega) (Or.inr (by omega))]
  · rcases f7 with ⟨g1, g2, hw, g4⟩ | f7
    · refine Or.inl ⟨(g1.upc (by omega)).upr (by omega), ?_, PK.mk (k := k) (o := 0) (v := v) (m := 0) (by simp (disch := omega) only [up_ne, up_same, f5, f6, i4, i5, i6, i7, i9, m95, m98, m100]) (by simp (disch := omega) only [up_ne, up_same, f5, f6, i4, i5, i6, i7, i9, m95, m98, m100]) (by simp (disch := omega) only [up_ne, up_same, f5, f6, i4, i5, i6, i7, i9, m95, m98, m100]) (by simp (disch := omega) only [up_ne, up_same, f5, f6, i4, i5, i6, i7, i9, m95, m98, m100]) (by simp (disch := omega) only [up_ne, up_same, f5, f6, i4, i5, i6, i7, i9, m95, m98, m100]) (by simp (disch := omega) only [up_ne, up_same, f5, f6, i4, i5, i6, i7, i9, m95, m98, m100]) (by simp (disch := omega) only [up_ne, up_same, f5, f6, hw, i4, i5, i6, i7, i9, m95, m98, m100]) (by simp (disch := omega) only [up_ne, up_same, f5, f6, i4, i5, i6, i7, i9, m95, m98, m100]) (by unfold KO; omega) (fun e => by omega) (fun e => by omega)⟩
      unfold tkc
      rw [if_neg (by omega), if_neg (by omega), if_neg (by omega)]
      omega
    · exact Or.inr ((f7.upc (by omega)).upr (by omega))
theorem p_c {N x : Nat} (hN : 500 ≤ N) (hx : x < 24) {g : St → Option Rs} {c r : St} {b : Nat → Int} {z n j : Nat} (H : RD c r b z n j) (G : gd c r b z j) (I : INI c r x 13 0) : ∃ c' r', d_x2_readPart_97L N N c (x : Int) (2 * 22 + 1) 0 = some (c', 0) ∧ d_x8_row_149 N g r (x : Int) 13 0 (x : Int) = d_x8_row_292 N g r' (x : Int) 13 ∧ PQ x 13 b z n j c r c' r' := by
  obtain ⟨i4, i5, i6, i7, i9, m95, m98, m100⟩ := I
  obtain ⟨c1, r1, v, w, f1, f2, j1, f3, f4, f5', f6', f7⟩ := r_numb hN (lo := 1) (hi := 9) (H.upr (a := 96) (x := x) (v := 0) (by omega)) (G.upr (by omega)) (by decide) (by decide)
  have f5 : ∀ a k, ¬ (a = 1 ∧ (k = 6 ∨ k = 7)) → c1 a k = c a k := f5'
  have f6 : ∀ y k, ¬ (y = 77 ∧ 20 ≤ k ∧ k ≤ 25) → r1 y k = up r 96 x 0 y k := f6'
  refine ⟨up c1 6 x v, up r1 98 x w, e_97_1 (by omega) (tx_all (i := 22) (by decide)) G.1 ((e_fld hx).2.2.2.1 f1), ?_, j1, f3, (f4.upc (by omega)).upr (by omega), f5'.fr.up (by omega), ((FMr.refl.up (by omega)).trans f6'.fr (Nat.le_refl _) (Nat.le_refl _) (by omega)).up (by omega), (by simp (disch := omega) only [up_ne, up_same, f5, f6, i4, i5, i6, i7, i9, m95, m98, m100]), (by simp (disch := omega) only [up_ne, up_same, f5, f6, i4, i5, i6, i7, i9, m95, m98, m100]), ?_⟩
  · rw [q149n hx (by omega) (Or.inr (by omega)), q193c hx (by rw [up_ne (by decide)]; exact G.2.1) f2, q253n (by omega) (Or.inr (by omega)), q275n (by omega) (Or.inr (by omega))]
  · rcases f7 with ⟨g1, g2, hw, g4⟩ | f7
    · refine Or.inl ⟨(g1.upc (by omega)).upr (by omega), ?_, PK.mk (k := 13) (o := 0) (v := v) (m := 0) (by simp (disch := omega) only [up_ne, up_same, f5, f6, i4, i5, i6, i7, i9, m95, m98, m100]) (by simp (disch := omega) only [up_ne, up_same, f5, f6, i4, i5, i6, i7, i9, m95, m98, m100]) (by simp (disch := omega) only [up_ne, up_same, f5, f6, i4, i5, i6, i7, i9, m95, m98, m100]) (by simp (disch := omega) only [up_ne, up_same, f5, f6, i4, i5, i6, i7, i9, m95, m98, m100]) (by simp (disch := omega) only [up_ne, up_same, f5, f6, i4, i5, i6, i7, i9, m95, m98, m100]) (by simp (disch := omega) only [up_ne, up_same, f5, f6, i4, i5, i6, i7, i9, m95, m98, m100]) (by simp (disch := omega) only [up_ne, up_same, f5, f6, hw, i4, i5, i6, i7, i9, m95, m98, m100]) (by simp (disch := omega) only [up_ne, up_same, f5, f6, i4, i5, i6, i7, i9, m95, m98, m100]) (by unfold KO; omega) (fun e => by omega) (fun e => by omega)⟩
      show (j : Int) + 2 ≤ (j1 : Int) + 1
      omega
    · exact Or.inr ((f7.upc (by omega)).upr (by omega))
theorem p_o {N x : Nat} (hN : 500 ≤ N) (hx : x < 24) {g : St → Option Rs} {c r : St} {b : Nat → Int} {z n j : Nat} {k : Int} (hk : k = 6 ∨ k = 10) (H : RD c r b z n j) (G : gd c r b z j) (I : INI c r x k 0) : ∃ c' r', d_x2_readPart_97L N N c (x : Int) (2 * 19 + 1) 0 = some (c', 0) ∧ (bI (d_x8_op N r 0) fun s v => d_x8_row_149 N g s (x : Int) k v (x : Int)) = d_x8_row_292 N g r' (x : Int) k ∧ PQ x k b z n j c r c' r' := by
  obtain ⟨i4, i5, i6, i7, i9, m95, m98, m100⟩ := I
  obtain ⟨c1, r1, v, w, f1, f2, j1, f3, f4, f5', f6', f7⟩ := r_sign hN (t := 23) (Or.inl rfl) H G
  rw [if_pos rfl] at f2
  have f5 : ∀ a k, ¬ (a = 1 ∧ (k = 6 ∨ k = 7)) → c1 a k = c a k := f5'
  have f6 : ∀ y k, ¬ (y = 77 ∧ 20 ≤ k ∧ k ≤ 25) → r1 y k = r y k := f6'
  refine ⟨up c1 5 x v, up r1 96 x w, e_97_1 (by omega) (tx_all (i := 19) (by decide)) G.1 ((e_fld hx).2.2.2.2.1 f1), ?_, j1, f3, (f4.upc (by omega)).upr (by omega), f5'.fr.up (by omega), f6'.fr.up (by omega), (by simp (disch := omega) only [up_ne, up_same, f5, f6, i4, i5, i6, i7, i9, m95, m98, m100]), (by simp (disch := omega) only [up_ne, up_same, f5, f6, i4, i5, i6, i7, i9, m95, m98, m100]), ?_⟩
  · rw [f2, bI_some, q149n hx (by omega) (Or.inr (by omega)), q193n (by omega) (Or.inr (by omega)), q253n (by omega) (Or.inr (by omega)), q275n (by omega) (Or.inr (by omega))]
  · rcases f7 with ⟨g1, g2, hw, g4⟩ | f7
    · refine Or.inl ⟨(g1.upc (by omega)).upr (by omega), ?_, PK.mk (k := k) (o := v) (v := 0) (m := 0) (by simp (disch := omega) only [up_ne, up_same, f5, f6, i4, i5, i6, i7, i9, m95, m98, m100]) (by simp (disch := omega) only [up_ne, up_same, f5, f6, i4, i5, i6, i7, i9, m95, m98, m100]) (by simp (disch := omega) only [up_ne, up_same, f5, f6, i4, i5, i6, i7, i9, m95, m98, m100]) (by simp (disch := omega) only [up_ne, up_same, f5, f6, i4, i5, i6, i7, i9, m95, m98, m100]) (by simp (disch := omega) only [up_ne, up_same, f5, f6, i4, i5, i6, i7, i9, m95, m98, m100]) (by simp (disch := omega) only [up_ne, up_same, f5, f6, hw, i4, i5, i6, i7, i9, m95, m98, m100]) (by simp (disch := omega) only [up_ne, up_same, f5, f6, i4, i5, i6, i7, i9, m95, m98, m100]) (by simp (disch := omega) only [up_ne, up_same, f5, f6, i4, i5, i6, i7, i9, m95, m98, m100]) (by unfold sgs at g4; unfold KO; omega) (fun e => by omega) (fun e => by omega)⟩
      unfold tkc
      rw [if_neg (by omega), if_neg (by omega), if_neg (by omega)]
      omega
    · exact Or.inr ((f7.upc (by omega)).upr (by omega))
theorem p_l {N x : Nat} (hN : 500 ≤ N) (hx : x < 24) {g : St → Option Rs} {c r : St} {b : Nat → Int} {z n j : Nat} (H : RD c r b z n j) (G : gd c r b z j) (I : INI c r x 2 0) : ∃ c' r', d_x2_readPart_97L N N c (x : Int) (2 * 16 + 1) 0 = some (c', 0) ∧ d_x8_row_149 N g r (x : Int) 2 0 (x : Int) = d_x8_row_292 N g r' (x : Int) 2 ∧ PQ x 2 b z n j c r c' r' := by
  obtain ⟨i4, i5, i6, i7, i9, m95, m98, m100⟩ := I
  obtain ⟨c1, r1, v, w, f1, f2, j1, f3, f4, f5', f6', f7⟩ := r_list hN hx (H.upr (a := 96) (x := x) (v := 0) (by omega)) (G.upr (by omega))
  have f5 : ∀ a k, ¬ (a = 1 ∧ (k = 6 ∨ k = 7)) → ¬ (a = 9 ∧ k = x) → ¬ (a = 10 ∧ 8 * x ≤ k ∧ k < 8 * x + 8) → c1 a k = c a k := f5'
  have f6 : ∀ y k, ¬ (y = 77 ∧ 20 ≤ k ∧ k ≤ 25) → ¬ (y = 100 ∧ k = x) → ¬ (y = 101 ∧ 8 * x ≤ k ∧ k < 8 * x + 8) → r1 y k = up r 96 x 0 y k := f6'
  refine ⟨c1, r1, e_97_1 (by omega) (tx_all (i := 16) (by decide)) G.1 ((e_fld hx).2.2.2.2.2.2 f1), ?_, j1, f3, f4, f5'.fr, (FMr.refl.up (by omega)).trans f6'.fr (Nat.le_refl _) (Nat.le_refl _) (by omega), (by simp (disch := omega) only [up_ne, up_same, f5, f6, i4, i5, i6, i7, i9, m95, m98, m100]), (by simp (disch := omega) only [up_ne, up_same, f5, f6, i4, i5, i6, i7, i9, m95, m98, m100]), ?_⟩
  · rw [q149n hx (by omega) (Or.inr (by omega)), q193n (by omega) (Or.inr (by omega)), q253n (by omega) (Or.inr (by omega)), q275y (by rw [up_ne (by decide)]; exact G.2.1) f2]
  · rcases f7 with ⟨g1, k, k1, k8, h9, h100, E, g7⟩ | f7
    · refine Or.inl ⟨g1, ?_, PK.mk (k := 2) (o := 0) (v := 0) (m := (k : Int)) (by simp (disch := omega) only [up_ne, up_same, f5, f6, i4, i5, i6, i7, i9, m95, m98, m100]) (by simp (disch := omega) only [up_ne, up_same, f5, f6, i4, i5, i6, i7, i9, m95, m98, m100]) (by simp (disch := omega) only [up_ne, up_same, f5, f6, i4, i5, i6, i7, i9, m95, m98, m100]) h9 (by simp (disch := omega) only [up_ne, up_same, f5, f6, i4, i5, i6, i7, i9, m95, m98, m100]) (by simp (disch := omega) only [up_ne, up_same, f5, f6, i4, i5, i6, i7, i9, m95, m98, m100]) (by simp (disch := omega) only [up_ne, up_same, f5, f6, i4, i5, i6, i7, i9, m95, m98, m100]) h100 (by unfold KO; omega) (fun e => by omega) (fun _ i hi => ?_)⟩
      · rw [h9]
        show (j : Int) + 2 * (k : Int) ≤ (j1 : Int) + 1
        omega
      · have := E i (by omega)
        exact ⟨this.1.symm, this.2⟩
    · exact Or.inr f7
theorem p_ns {N x : Nat} (hN : 500 ≤ N) (hx : x < 24) {g : St → Option Rs} {c r : St} {b : Nat → Int} {z n j : Nat} (H : RD c r b z n j) (G : gd c r b z j) (I : INI c r x 1 0) : ∃ c' r', d_x2_readPart_97L N N c (x : Int) (2 * 15 + 1) 0 = some (c', 0) ∧ d_x8_row_149 N g r (x : Int) 1 0 (x : Int) = d_x8_row_292 N g r' (x : Int) 1 ∧ PQ x 1 b z n j c r c' r' := by
  obtain ⟨i4, i5, i6, i7, i9, m95, m98, m100⟩ := I
  obtain ⟨c1, r1, v, w, f1, f2, j1, f3, f4, f5', f6', f7⟩ := r_num hN (H.upr (a := 96) (x := x) (v := 0) (by omega)) (G.upr (by omega))
  have f5 : ∀ a k, ¬ (a = 1 ∧ (k = 6 ∨ k = 7)) → c1 a k = c a k := f5'
  have f6 : ∀ y k, ¬ (y = 77 ∧ 20 ≤ k ∧ k ≤ 25) → r1 y k = up r 96 x 0 y k := f6'
  have L := e_97_2 (N := N) (y := 115) (by omega) (tx_all (i := 15) (by decide)) G.1 ((e_fld hx).1 f1)
  rcases f7 with ⟨g1, g2, hw, g4⟩ | f7
  · have H2 := (f4.upc (a := 6) (x := x) (v := v) (by omega)).upr (a := 98) (x := x) (v := w) (by omega)
    have G2 := (g1.upc (a := 6) (x := x) (v := v) (by omega)).upr (a := 98) (x := x) (v := w) (by omega)
    obtain ⟨c2, r2, v2, w2, g1', g2', j2, g3, g4', g5', g6', g7⟩ := r_num hN H2 G2
    have g5 : ∀ a k, ¬ (a = 1 ∧ (k = 6 ∨ k = 7)) → c2 a k = up c1 6 x v a k := g5'
    have g6 : ∀ y k, ¬ (y = 77 ∧ 20 ≤ k ∧ k ≤ 25) → r2 y k = up r1 98 x w y k := g6'
    have hw2 := hw
    refine ⟨up c2 7 x v2, up r2 99 x w2, L.1 _ _ (by rw [up_ne (by decide)]; exact g1.1) ((e_fld hx).2.1 g1'), ?_, j2, by omega, (g4'.upc (by omega)).upr (by omega), ((f5'.fr.up (by omega)).trans g5'.fr (Nat.le_refl _) (Nat.le_refl _) (by omega)).up (by omega), ((((FMr.refl.up (by omega)).trans f6'.fr (Nat.le_refl _) (Nat.le_refl _) (by omega)).up (by omega)).trans g6'.fr (Nat.le_refl _) (Nat.le_refl _) (by omega)).up (by omega), (by simp (disch := omega) only [up_ne, up_same, f5, f6, g5, g6, hw, hw2, i4, i5, i6, i7, i9, m95, m98, m100]), (by simp (disch := omega) only [up_ne, up_same, f5, f6, g5, g6, hw, hw2, i4, i5, i6, i7, i9, m95, m98, m100]), ?_⟩
    · rw [q149y hx G.2.1 (by omega), q183 hx f2, q193n (by omega) (Or.inr (by omega)), q253y hx G2.2.1 g2', q275n (by omega) (Or.inr (by omega))]
    · rcases g7 with ⟨k1, k2, kw, k4⟩ | g7
      · refine Or.inl ⟨(k1.upc (by omega)).upr (by omega), ?_, PK.mk (k := 1) (o := 0) (v := v) (m := 0) (by simp (disch := omega) only [up_ne, up_same, f5, f6, g5, g6, hw, hw2, i4, i5, i6, i7, i9, m95, m98, m100]) (by simp (disch := omega) only [up_ne, up_same, f5, f6, g5, g6, hw, hw2, i4, i5, i6, i7, i9, m95, m98, m100]) (by simp (disch := omega) only [up_ne, up_same, f5, f6, g5, g6, hw, hw2, i4, i5, i6, i7, i9, m95, m98, m100]) (by simp (disch := omega) only [up_ne, up_same, f5, f6, g5, g6, hw, hw2, i4, i5, i6, i7, i9, m95, m98, m100]) (by simp (disch := omega) only [up_ne, up_same, f5, f6, g5, g6, hw, hw2, i4, i5, i6, i7, i9, m95, m98, m100]) (by simp (disch := omega) only [up_ne, up_same, f5, f6, g5, g6, hw, hw2, i4, i5, i6, i7, i9, m95, m98, m100]) (by simp (disch := omega) only [up_ne, up_same, f5, f6, g5, g6, hw, hw2, i4, i5, i6, i7, i9, m95, m98, m100]) (by simp (disch := omega) only [up_ne, up_same, f5, f6, g5, g6, hw, hw2, i4, i5, i6, i7, i9, m95, m98, m100]) (by unfold KO; omega) (fun _ => ?_) (fun e => by omega)⟩
        · show (j : Int) + 3 ≤ (j2 : Int) + 1
          omega
        · rw [up_same, up_same, kw]
          exact ⟨rfl, k4⟩
      · exact Or.inr ((g7.upc (by omega)).upr (by omega))
  · have B2 := (f7.upc (a := 6) (x := x) (v := v) (by omega)).upr (a := 98) (x := x) (v := w) (by omega)
    refine ⟨up c1 6 x v, up r1 98 x w, L.2 B2.2.1 B2.2.2.1, ?_, j1, f3, (f4.upc (by omega)).upr (by omega), f5'.fr.up (by omega), ((FMr.refl.up (by omega)).trans f6'.fr (Nat.le_refl _) (Nat.le_refl _) (by omega)).up (by omega), (by simp (disch := omega) only [up_ne, up_same, f5, f6, i4, i5, i6, i7, i9, m95, m98, m100]), (by simp (disch := omega) only [up_ne, up_same, f5, f6, i4, i5, i6, i7, i9, m95, m98, m100]), Or.inr B2⟩
    rw [q149y hx G.2.1 (by omega), q183 hx f2, q193n (by omega) (Or.inr (by omega)), q253n (by omega) (Or.inl B2.2.2.2), q275n (by omega) (Or.inr (by omega))]
theorem p_on {N x t : Nat} (hN : 500 ≤ N) (hx : x < 24) {g : St → Option Rs} {c r : St} {b : Nat → Int} {z n j : Nat} {k : Int} (hk : (t = 23 ∧ k = 3) ∨ (t = 24 ∧ (k = 4 ∨ k = 5))) (H : RD c r b z n j) (G : gd c r b z j) (I : INI c r x k 0) : ∃ c' r', d_x2_readPart_97L N N c (x : Int) (2 * (t - 6) + 1) 0 = some (c', 0) ∧ (bI (d_x8_op N r (if t = 23 then 0 else 1)) fun s v => d_x8_row_149 N g s (x : Int) k v (x : Int)) = d_x8_row_292 N g r' (x : Int) k ∧ PQ x k b z n j c r c' r' := by
  obtain ⟨i4, i5, i6, i7, i9, m95, m98, m100⟩ := I
  obtain ⟨c1, r1, v, w, f1, f2, j1, f3, f4, f5', f6', f7⟩ := r_sign hN (t := t) (by omega) H G
  have f5 : ∀ a k, ¬ (a = 1 ∧ (k = 6 ∨ k = 7)) → c1 a k = c a k := f5'
  have f6 : ∀ y k, ¬ (y = 77 ∧ 20 ≤ k ∧ k ≤ 25) → r1 y k = r y k := f6'
  have L : (∀ c2 w, up c1 5 x v 1 7 = -1 → d_x2_readField N (up c1 5 x v) (x : Int) 110 = some (c2, w) → d_x2_readPart_97L N N c (x : Int) (2 * (t - 6) + 1) 0 = some (c2, 0)) ∧ (0 ≤ up c1 5 x v 1 7 → up c1 5 x v 1 7 ≤ 120 → d_x2_readPart_97L N N c (x : Int) (2 * (t - 6) + 1) 0 = some (up c1 5 x v, 0)) := by
    rcases hk with ⟨et, _⟩ | ⟨et, _⟩ <;> subst et
    · exact e_97_2 (N := N) (y := 110) (by omega) (tx_all (i := 17) (by decide)) G.1 ((e_fld hx).2.2.2.2.1 f1)
    · exact e_97_2 (N := N) (y := 110) (by omega) (tx_all (i := 18) (by decide)) G.1 ((e_fld hx).2.2.2.2.2.1 f1)
  rcases f7 with ⟨g1, g2, hw, g4⟩ | f7
  · have H2 := (f4.upc (a := 5) (x := x) (v := v) (by omega)).upr (a := 96) (x := x) (v := w) (by omega)
    have G2 := (g1.upc (a := 5) (x := x) (v := v) (by omega)).upr (a := 96) (x := x) (v := w) (by omega)
    obtain ⟨c2, r2, v2, w2, g1', g2', j2, g3, g4', g5', g6', g7⟩ := r_num hN H2 G2
    have g5 : ∀ a k, ¬ (a = 1 ∧ (k = 6 ∨ k = 7)) → c2 a k = up c1 5 x v a k := g5'
    have g6 : ∀ y k, ¬ (y = 77 ∧ 20 ≤ k ∧ k ≤ 25) → r2 y k = up r1 96 x w y k := g6'
    have hw2' := hw
    refine ⟨up c2 6 x v2, up r2 98 x w2, L.1 _ _ (by rw [up_ne (by decide)]; exact g1.1) ((e_fld hx).1 g1'), ?_, j2, by omega, (g4'.upc (by omega)).upr (by omega), ((f5'.fr.up (by omega)).trans g5'.fr (Nat.le_refl _) (Nat.le_refl _) (by omega)).up (by omega), ((f6'.fr.up (by omega)).trans g6'.fr (Nat.le_refl _) (Nat.le_refl _) (by omega)).up (by omega), (have hw2 := hw; (by simp (disch := omega) only [up_ne, up_same, f5, f6, g5, g6, hw, hw2, i4, i5, i6, i7, i9, m95, m98, m100])), (have hw2 := hw; (by simp (disch := omega) only [up_ne, up_same, f5, f6, g5, g6, hw, hw2, i4, i5, i6, i7, i9, m95, m98, m100])), ?_⟩
    · rw [f2, bI_some, q149y hx g1.2.1 (by omega), q183 hx g2', q193n (by omega) (Or.inr (by omega)), q253n (by omega) (Or.inr (by omega)), q275n (by omega) (Or.inr (by omega))]
    · rcases g7 with ⟨k1, k2, hw2, k4⟩ | g7
      · refine Or.inl ⟨(k1.upc (by omega)).upr (by omega), ?_, PK.mk (k := k) (o := v) (v := v2) (m := 0) (by simp (disch := omega) only [up_ne, up_same, f5, f6, g5, g6, hw, hw2, i4, i5, i6, i7, i9, m95, m98, m100]) (by simp (disch := omega) only [up_ne, up_same, f5, f6, g5, g6, hw, hw2, i4, i5, i6, i7, i9, m95, m98, m100]) (by simp (disch := omega) only [up_ne, up_same, f5, f6, g5, g6, hw, hw2, i4, i5, i6, i7, i9, m95, m98, m100]) (by simp (disch := omega) only [up_ne, up_same, f5, f6, g5, g6, hw, hw2, i4, i5, i6, i7, i9, m95, m98, m100]) (by simp (disch := omega) only [up_ne, up_same, f5, f6, g5, g6, hw, hw2, i4, i5, i6, i7, i9, m95, m98, m100]) (by simp (disch := omega) only [up_ne, up_same, f5, f6, g5, g6, hw, hw2, i4, i5, i6, i7, i9, m95, m98, m100]) (by simp (disch := omega) only [up_ne, up_same, f5, f6, g5, g6, hw, hw2, i4, i5, i6, i7, i9, m95, m98, m100]) (by simp (disch := omega) only [up_ne, up_same, f5, f6, g5, g6, hw, hw2, i4, i5, i6, i7, i9, m95, m98, m100]) (by unfold sgs at g4; unfold KO; omega) (fun e => by omega) (fun e => by omega)⟩
        unfold tkc
        rw [if_neg (by omega), if_pos (by omega)]
        omega
      · exact Or.inr ((g7.upc (by omega)).upr (by omega))
  · have B2 := (f7.upc (a := 5) (x := x) (v := v) (by omega)).upr (a := 96) (x := x) (v := w) (by omega)
    refine ⟨up c1 5 x v, up r1 96 x w, L.2 B2.2.1 B2.2.2.1, ?_, j1, f3, (f4.upc (by omega)).upr (by omega), f5'.fr.up (by omega), f6'.fr.up (by omega), (by simp (disch := omega) only [up_ne, up_same, f5, f6, i4, i5, i6, i7, i9, m95, m98, m100]), (by simp (disch := omega) only [up_ne, up_same, f5, f6, i4, i5, i6, i7, i9, m95, m98, m100]), Or.inr B2⟩
    rw [f2, bI_some, q149n hx (by omega) (Or.inl f7.2.2.2), q193n (by omega) (Or.inr (by omega)), q253n (by omega) (Or.inr (by omega)), q275n (by omega) (Or.inr (by omega))]
end
