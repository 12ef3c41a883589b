theorem RD.sg {c r : St} {b : Nat → Int} {z n j : Nat} (H : RD c r b z n j) (h3 : c 13 j = 3) : 0 ≤ c 14 j ∧ c 14 j ≤ 255 := by
  obtain ⟨⟨t1, t2, t3, t4, t5, t6, t7⟩, M, h6, hj⟩ := H
  by_cases e : j = n
  · subst e
    omega
  · have t := t1 j (by omega)
    have g := (M.2.2 _ t.1).2
    have e3 : srt b (bgf b z j) (te b z (bgf b z j)) = 3 := by rw [← t.2.2.1]; exact h3
    rw [t.2.2.2]
    unfold mng
    rw [e3, if_neg (by decide), if_neg (by decide)]
    exact g
def sgs (t : Nat) (v : Int) : Prop := (t = 23 ∧ (v = 43 ∨ v = 45 ∨ v = 42 ∨ v = 47 ∨ v = 37)) ∨ (t = 24 ∧ (v = 60 ∨ v = 62 ∨ v = 61 ∨ v = 37))
theorem sgs_mem {t : Nat} (ht : t = 23 ∨ t = 24) {v : Int} (hv : 0 ≤ v ∧ v ≤ 255) : v ∈ tl t ↔ sgs t v := by
  have e0 : ((v.toNat : Nat) : Int) = v := by omega
  unfold sgs
  rcases ht with e | e <;> subst e
  · have m : (((v.toNat : Nat) : Int) ∈ tl 23 ↔ (v.toNat = 43 ∨ v.toNat = 45 ∨ v.toNat = 42 ∨ v.toNat = 47 ∨ v.toNat = 37)) := tl23 ⟨v.toNat, by omega⟩
    rw [e0] at m
    rw [m]
    omega
  · have m : (((v.toNat : Nat) : Int) ∈ tl 24 ↔ (v.toNat = 60 ∨ v.toNat = 62 ∨ v.toNat = 61 ∨ v.toNat = 37)) := tl24 ⟨v.toNat, by omega⟩
    rw [e0] at m
    rw [m]
    omega
theorem r_sign {N : Nat} (hN : 500 ≤ N) {c r : St} {b : Nat → Int} {z n j t : Nat} (ht : t = 23 ∨ t = 24) (H : RD c r b z n j) (G : gd c r b z j) : Rd (d_x2_readSign N c (2 * t + 1)) (d_x8_op N r (if t = 23 then 0 else 1)) (QR c r b z n j 1 (sgs t)) := by
  have S := H.sort G
  have hj := H.2.2.1
  have ms : ∃ c' v, d_x2_readSign_32 N c = some (c', v) ∧ ∃ r' w, d_x8_op_98 N r 0 = some (r', w) ∧ QR c r b z n j 1 (sgs t) c' r' v w := by
    obtain ⟨c', r', v, w, e1, e2, e3, e4, e5, e6⟩ := H.miss (N := N) (Or.inl G)
    unfold d_x2_readSign_32 d_x8_op_98 d_x8_op_107
    rw [e1, bV_some, if_pos w32_0, e2, bV_some, bd_eq, e4.2.2.2, if_neg (by decide)]
    exact ⟨c', _, rfl, r', _, rfl, j, Nat.le_refl _, e3, e5, e6, Or.inr e4⟩
  obtain ⟨cm, vm, em, rm, wm, fm, qm⟩ := ms
  have cls : (c 13 j = 3 ∧ sgs t (c 14 j) → d_x2_readSign N c (2 * t + 1) = some (up c 1 6 ((j : Int) + 1), c 14 j)) ∧ (¬ (c 13 j = 3 ∧ sgs t (c 14 j)) → d_x2_readSign N c (2 * t + 1) = some (cm, vm)) := by
    unfold d_x2_readSign
    rw [hj, w32i (x := (j : Int)) (by omega) (by omega), if_pos (by omega), bd_eq, if_pos (by omega), Int.toNat_natCast, w32i (x := c 13 j) (by omega) (by omega)]
    by_cases h3 : c 13 j = 3
    · have hv := H.sg h3
      obtain ⟨v, e1, e2, e3, e4⟩ := e_idx (N := N) (i := t) (by omega) (by omega) (s := c) hv
      have m := sgs_mem ht hv
      rw [if_pos h3, if_neg (show ¬ 2 * t + 1 = 1000 by omega), if_pos (by omega), e1, bI_some, w32i (x := v) (by omega) (by omega), hj]
      by_cases q : v < 0
      · have nm := e2.mp q
        rw [if_pos q, em]
        exact ⟨fun y => absurd (m.mpr y.2) nm, fun _ => rfl⟩
      · have ym : c 14 j ∈ tl t := Classical.byContradiction (fun y => q (e2.mpr y))
        rw [if_neg q, bd_eq]
        exact ⟨fun _ => rfl, fun y => absurd ⟨h3, m.mp ym⟩ y⟩
    · rw [if_neg h3, em]
      exact ⟨fun y => absurd y.1 h3, fun _ => rfl⟩
  by_cases q : c 13 j = 3 ∧ sgs t (c 14 j)
  · obtain ⟨r', v, e1, e2, e3, e4⟩ := H.adv hN G (by omega) (by omega)
    have e23 : r 77 23 = c 14 j := S.2.2.2.2.2.2.2.2.2.1 (Or.inr q.1)
    have go : d_x8_op_98 N r 1 = some (r', c 14 j) := by
      unfold d_x8_op_98 d_x8_op_107
      rw [w32_1, if_neg (by decide), bd_eq, G.2.1, if_pos w32_0, e1, bV_some, e23]
    refine ⟨_, r', _, c 14 j, cls.1 q, ?_, j + 1, by omega, e2, fun a k h => up_o (by omega), e4.fm, Or.inl ⟨e3, Nat.le_refl _, rfl, q.2⟩⟩
    unfold d_x8_op d_x8_op_93 d_x8_op_40
    have is1 : ∀ x, r32 x → c 14 j = x → d_x8_isSign N r x = some (r, 1) := fun x hx e => by rw [m_sgn H G hx, if_pos ⟨q.1, e⟩]
    have is0 : ∀ x, r32 x → c 14 j ≠ x → d_x8_isSign N r x = some (r, 0) := fun x hx e => by rw [m_sgn H G hx, if_neg (fun y => e y.2)]
    have z32 : ∀ x : Int, 0 ≤ x ∧ x ≤ 200 → r32 x := fun x hx => by unfold r32; omega
    have n0 : ¬ w32 (1 : Int) = 0 := by decide
    rcases q.2 with ⟨et, hv⟩ | ⟨et, hv⟩
    · rw [if_pos et, if_pos w32_0]
      rcases hv with e | e | e | e | e
      · rw [is1 43 (z32 _ (by decide)) e, bI_some, if_neg n0, go]
      · rw [is0 43 (z32 _ (by decide)) (by omega), bI_some, if_pos w32_0, is1 45 (z32 _ (by decide)) e, bI_some, if_neg n0, go]
      · rw [is0 43 (z32 _ (by decide)) (by omega), bI_some, if_pos w32_0, is0 45 (z32 _ (by decide)) (by omega), bI_some, if_pos w32_0, is1 42 (z32 _ (by decide)) e, bI_some, if_neg n0, go]
      · rw [is0 43 (z32 _ (by decide)) (by omega), bI_some, if_pos w32_0, is0 45 (z32 _ (by decide)) (by omega), bI_some, if_pos w32_0, is0 42 (z32 _ (by decide)) (by omega), bI_some, if_pos w32_0, is1 47 (z32 _ (by decide)) e, bI_some, if_neg n0, go]
      · rw [is0 43 (z32 _ (by decide)) (by omega), bI_some, if_pos w32_0, is0 45 (z32 _ (by decide)) (by omega), bI_some, if_pos w32_0, is0 42 (z32 _ (by decide)) (by omega), bI_some, if_pos w32_0, is0 47 (z32 _ (by decide)) (by omega), bI_some, if_pos w32_0, is1 37 (z32 _ (by decide)) e, bI_some, if_neg n0, go]
    · rw [if_neg (show ¬ t = 23 by omega), if_neg n0]
      rcases hv with e | e | e | e
      · rw [is1 60 (z32 _ (by decide)) e, bI_some, if_neg n0, go]
      · rw [is0 60 (z32 _ (by decide)) (by omega), bI_some, if_pos w32_0, is1 62 (z32 _ (by decide)) e, bI_some, if_neg n0, go]
      · rw [is0 60 (z32 _ (by decide)) (by omega), bI_some, if_pos w32_0, is0 62 (z32 _ (by decide)) (by omega), bI_some, if_pos w32_0, is1 61 (z32 _ (by decide)) e, bI_some, if_neg n0, go]
      · rw [is0 60 (z32 _ (by decide)) (by omega), bI_some, if_pos w32_0, is0 62 (z32 _ (by decide)) (by omega), bI_some, if_pos w32_0, is0 61 (z32 _ (by decide)) (by omega), bI_some, if_pos w32_0, is1 37 (z32 _ (by decide)) e, bI_some, if_neg n0, go]
  · refine ⟨cm, rm, vm, wm, cls.2 q, ?_, qm⟩
    have is0 : ∀ x, r32 x → sgs t x → d_x8_isSign N r x = some (r, 0) := fun x hx e => by rw [m_sgn H G hx, if_neg (fun y => q ⟨y.1, by rw [y.2]; exact e⟩)]
    have z32 : ∀ x : Int, 0 ≤ x ∧ x ≤ 200 → r32 x := fun x hx => by unfold r32; omega
    have n0 : ¬ w32 (1 : Int) = 0 := by decide
    unfold d_x8_op
    rcases ht with et | et
    · have s0 : ∀ x : Int, (x = 43 ∨ x = 45 ∨ x = 42 ∨ x = 47 ∨ x = 37) → sgs t x := fun x hx => Or.inl ⟨et, hx⟩
      rw [if_pos et, if_pos w32_0, is0 43 (z32 _ (by decide)) (s0 _ (by decide)), bI_some, if_pos w32_0, is0 45 (z32 _ (by decide)) (s0 _ (by decide)), bI_some, if_pos w32_0, is0 42 (z32 _ (by decide)) (s0 _ (by decide)), bI_some, if_pos w32_0, is0 47 (z32 _ (by decide)) (s0 _ (by decide)), bI_some, if_pos w32_0, is0 37 (z32 _ (by decide)) (s0 _ (by decide)), bI_some, if_pos w32_0]
      exact fm
    · have s0 : ∀ x : Int, (x = 60 ∨ x = 62 ∨ x = 61 ∨ x = 37) → sgs t x := fun x hx => Or.inr ⟨et, hx⟩
      rw [if_neg (show ¬ t = 23 by omega), if_neg n0, is0 60 (z32 _ (by decide)) (s0 _ (by decide)), bI_some, if_pos w32_0, is0 62 (z32 _ (by decide)) (s0 _ (by decide)), bI_some, if_pos w32_0, is0 61 (z32 _ (by decide)) (s0 _ (by decide)), bI_some, if_pos w32_0, is0 37 (z32 _ (by decide)) (s0 _ (by decide)), bI_some, if_pos w32_0]
      exact fm
