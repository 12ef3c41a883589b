theorem g_sheet {N : Nat} (hN : 100 ≤ N) {c r : St} {a0 a1 a2 : Int} (h0 : r32 a0) (h1 : r32 a1) (h2 : r32 a2) (H : RG c r) : Two (d_x7_sheet N c a0 a1 a2) (d_x8_sheet N r a0 a1 a2) (QG c r) := by
  obtain ⟨c', r', v, e1, e2, S, F, G⟩ := r_sheet hN h0 h1 h2 H.2.2.2.2.1
  exact ⟨c', r', v, e1, e2, QG.sheets H S F G v⟩
theorem g_put {N : Nat} {c r : St} {a0 a1 a2 : Int} (h0 : r32 a0) (h1 : r32 a1) (H : RG c r) : Two (d_x7_put N c a0 a1 a2) (d_x8_put N r a0 a1 a2) (QG c r) := by
  obtain ⟨c', r', v, e1, e2, S, F, G⟩ := r_put (a2 := a2) h0 h1 H.2.2.2.2.1
  exact ⟨c', r', v, e1, e2, QG.sheets H S F G v⟩
theorem g_limit {N : Nat} {c r : St} {a0 : Int} (h0 : r32 a0) (H : RG c r) : Two (d_x7_limit N c a0) (d_x8_limit N r a0) (QG c r) := by
  obtain ⟨c', r', v, e1, e2, S, e, f⟩ := r_limit (N := N) h0 H.2.2.2.2.2.1
  refine ⟨c', r', v, e1, e2, ⟨H.1.cong (e _ _ (by omega)) (fun k => e _ _ (by omega)) (f _ _ (by omega)) (fun k => f _ _ (by omega)), H.2.1.cong (fun a k _ _ => e a k (by omega)) (fun a k _ _ => f a k (by omega)), ⟨H.2.2.1.1.cong (fun a k _ _ => e a k (by omega)), H.2.2.1.2.cong (fun a k _ _ => e a k (by omega))⟩, H.2.2.2.1.cong (fun a k _ _ => e a k (by omega)) (e _ _ (by omega)) (e _ _ (by omega)) (fun a k _ _ => f a k (by omega)) (f _ _ (by omega)) (f _ _ (by omega)), H.2.2.2.2.1.cong (fun a k _ _ => e a k (by omega)) (fun a k _ _ => f a k (by omega)), S, H.2.2.2.2.2.2.cong (e _ _ (by omega)) (f _ _ (by omega))⟩, fun a k _ => e a k (by omega), fun a k _ => f a k (by omega)⟩
/-- item() -/
theorem r_item {N : Nat} {c r : St} {a0 a1 : Int} (h0 : r32 a0) (h1 : r32 a1) (H : RG c r) : Two (d_x7_item N c a0 a1) (d_x8_item N r a0 a1) (QG c r) := by
  unfold d_x7_item d_x8_item
  have h1' := h1
  unfold r32 at h1'
  by_cases hh : 0 ≤ a0 ∧ a0 < 4
  · refine Two.cL (H7t h0 hh) (Two.eL (by decide) ?_)
    refine Two.cR (H8t h0 hh) (Two.eR (by decide) ?_)
    obtain ⟨h, rfl⟩ : ∃ h : Nat, a0 = h := ⟨a0.toNat, by omega⟩
    have hsh := H.2.2.2.2.1
    have h52 := hsh.r52 (h := h) (by omega)
    have h126 := hsh.r126 (h := h) (by omega)
    have hg : 0 ≤ w32 (h : Int) ∧ w32 (h : Int) < ((4 : Nat) : Int) := (by ((try simp (disch := omega) only [w32i, Int.toNat_natCast]) <;> omega))
    refine Two.cL (e_miss c (by omega) h52) ?_
    refine Two.iR hg ?_
    rw [w32i (x := (h : Int)) (by omega) (by omega), Int.toNat_natCast, h126]
    by_cases hm : c 52 h = -1
    · rw [if_pos hm, if_pos hm]
      refine Two.eL (by decide) (Two.iR (by decide) ?_)
      exact Two.ret rfl (QG.refl H _)
    · rw [if_neg hm, if_neg hm]
      refine Two.iL (by decide) (Two.eR (by decide) (Two.iR (by omega) ?_))
      rcases hsh h (by omega) with z | ⟨z1, z2, z3, z4, z5, z6, z7⟩
      · exact absurd z.1 hm
      refine Two.cL (e_spans c (by omega) h1 (by unfold r32; omega) ⟨z5, z6⟩) ?_
      rw [z4, w32i (x := c 53 h - 1) (by omega) (by omega), w32r h1]
      refine Two.cR (e_in32 N r h1 (by unfold r32; omega) (by unfold r32; omega)) ?_
      by_cases hi : 0 ≤ a1 ∧ a1 < c 53 h
      · rw [if_pos (show 0 ≤ a1 ∧ 0 ≤ (1 : Int) ∧ a1 + 1 ≤ c 53 h by omega), if_pos (show 0 ≤ a1 ∧ a1 ≤ c 53 h - 1 by omega)]
        obtain ⟨i, rfl⟩ : ∃ i : Nat, a1 = i := ⟨a1.toNat, by omega⟩
        refine Two.eL (by decide) (Two.eR (by decide) ?_)
        unfold d_x3_read
        have g1 : 0 ≤ w32 ((h : Int) * 40 + (i : Int)) ∧ w32 ((h : Int) * 40 + (i : Int)) < ((160 : Nat) : Int) := (by ((try simp (disch := omega) only [w32i, Int.toNat_natCast]) <;> omega))
        have g2 : 0 ≤ w32 (40 * (h : Int) + (i : Int)) ∧ w32 (40 * (h : Int) + (i : Int)) < ((160 : Nat) : Int) := (by ((try simp (disch := omega) only [w32i, Int.toNat_natCast]) <;> omega))
        refine Two.cL (if_pos g1) ?_
        refine Two.iR g2 ?_
        rw [w32i (x := (h : Int) * 40 + (i : Int)) (by omega) (by omega), w32i (x := 40 * (h : Int) + (i : Int)) (by omega) (by omega), show ((h : Int) * 40 + (i : Int)).toNat = h * 40 + i by omega, show (40 * (h : Int) + (i : Int)).toNat = h * 40 + i by omega]
        exact Two.ret (z7 i hi.2).symm (QG.refl H _)
      · rw [if_neg (show ¬ (0 ≤ a1 ∧ 0 ≤ (1 : Int) ∧ a1 + 1 ≤ c 53 h) by omega), if_neg (show ¬ (0 ≤ a1 ∧ a1 ≤ c 53 h - 1) by omega)]
        refine Two.iL (by decide) (Two.iR (by decide) ?_)
        exact Two.ret rfl (QG.refl H _)
  · refine Two.cL (H7f h0 hh) (Two.iL (by decide) ?_)
    refine Two.cR (H8f h0 hh) (Two.iR (by decide) ?_)
    exact Two.ret rfl (QG.refl H _)
theorem cp_0 {s : St} {a0 sp a1 dp : Nat} : cp s a0 sp a1 dp 0 = s := by
  funext b k
  rw [cp_app, if_neg (by omega)]
theorem cp_fwd {r : St} {a sp dp k : Nat} (h : ∀ q, q < k → dp + q ≠ sp + k) : up (cp r a sp a dp k) a (dp + k) (cp r a sp a dp k a (sp + k)) = cp r a sp a dp (k + 1) := by
  funext b x
  rw [up_app, cp_app (s := r) (b := b) (k := x) (n := k + 1)]
  have e : cp r a sp a dp k a (sp + k) = r a (sp + k) := by
    rw [cp_app, if_neg]
    rintro ⟨_, h1, h2⟩
    exact h (sp + k - dp) (by omega) (by omega)
  by_cases h1 : b = a ∧ x = dp + k
  · obtain ⟨rfl, rfl⟩ := h1
    rw [if_pos ⟨rfl, rfl⟩, if_pos (by omega), e, show sp + (dp + k - dp) = sp + k by omega]
  · rw [if_neg h1, cp_app]
    by_cases h2 : b = a ∧ dp ≤ x ∧ x < dp + k
    · rw [if_pos h2, if_pos (by omega)]
    · rw [if_neg h2, if_neg (by omega)]
theorem cp_bwd {r : St} {a sp dp k : Nat} (h : ∀ q, q < k → dp + 1 + q ≠ sp) : up (cp r a (sp + 1) a (dp + 1) k) a dp (cp r a (sp + 1) a (dp + 1) k a sp) = cp r a sp a dp (k + 1) := by
  funext b x
  rw [up_app, cp_app (s := r) (b := b) (k := x) (n := k + 1)]
  have e : cp r a (sp + 1) a (dp + 1) k a sp = r a sp := by
    rw [cp_app, if_neg]
    rintro ⟨_, h1, h2⟩
    exact h (sp - (dp + 1)) (by omega) (by omega)
  by_cases h1 : b = a ∧ x = dp
  · obtain ⟨rfl, rfl⟩ := h1
    rw [if_pos ⟨rfl, rfl⟩, if_pos (by omega), e, Nat.sub_self, Nat.add_zero]
  · rw [if_neg h1, cp_app]
    by_cases h2 : b = a ∧ dp + 1 ≤ x ∧ x < dp + 1 + k
    · rw [if_pos h2, if_pos (by omega), show sp + 1 + (x - (dp + 1)) = sp + (x - dp) by omega]
    · rw [if_neg h2, if_neg (by omega)]
theorem e_cpM {N : Nat} {r : St} {s t i j n : Nat} (hs : s < 4) (ht : t < 4) (hi : i + n ≤ 40) (hj : j + n ≤ 40) {up1 : Int} (hu : (up1 = 0 ∧ ¬ (s = t ∧ i < j)) ∨ (up1 = 1 ∧ s = t ∧ i < j)) : ∀ (k m x : Nat), x + k = n → k < m → d_x8_copy_121L N m (if up1 = 0 then cp r 129 (s * 40 + i) 129 (t * 40 + j) x else cp r 129 (s * 40 + i + (n - x)) 129 (t * 40 + j + (n - x)) x) (s : Int) (i : Int) (t : Int) (j : Int) (n : Int) up1 (x : Int) = some (cp r 129 (s * 40 + i) 129 (t * 40 + j) n, (n : Int)) := by
  intro k
  induction k with
  | zero =>
    intro m x hx hm
    obtain ⟨m, rfl⟩ : ∃ m', m = m' + 1 := ⟨m - 1, by omega⟩
    have : x = n := by omega
    subst this
    show d_x8_copy_121 N (d_x8_copy_121L N m) _ s i t j x up1 x = _
    unfold d_x8_copy_121
    rw [if_neg (show ¬ w32 (x : Int) < w32 (x : Int) by omega), Nat.sub_self, Nat.add_zero, Nat.add_zero, ite_self]
  | succ k ih =>
    intro m x hx hm
    obtain ⟨m, rfl⟩ : ∃ m', m = m' + 1 := ⟨m - 1, by omega⟩
    show d_x8_copy_121 N (d_x8_copy_121L N m) _ s i t j n up1 x = _
    unfold d_x8_copy_121 d_x8_copy_145
    rw [w32i (x := (x : Int)) (by omega) (by omega), w32i (x := (n : Int)) (by omega) (by omega), if_pos (show (x : Int) < (n : Int) by omega), w32i (x := up1) (by omega) (by omega)]
    have I := ih m (x + 1) (by omega) (by omega)
    rcases hu with ⟨u0, hn⟩ | ⟨u1, he, hl⟩
    · rw [if_pos u0] at I
      rw [if_pos u0, if_pos u0, w32i (x := 40 * (s : Int) + (i : Int) + (x : Int)) (by omega) (by omega), w32i (x := 40 * (t : Int) + (j : Int) + (x : Int)) (by omega) (by omega), if_pos (by omega), if_pos (by omega), bd_eq, bd_eq, show (40 * (s : Int) + (i : Int) + (x : Int)).toNat = s * 40 + i + x by omega, show (40 * (t : Int) + (j : Int) + (x : Int)).toNat = t * 40 + j + x by omega, cp_fwd (fun q hq => by
        by_cases e : s = t
        · subst e; omega
        · omega)]
      exact I
    · rw [if_neg (show ¬ up1 = 0 by omega)] at I
      obtain ⟨y, hy⟩ : ∃ y, n - x = y + 1 := ⟨n - x - 1, by omega⟩
      have hy2 : n - (x + 1) = y := by omega
      rw [hy2] at I
      have ey : ((n : Int) - 1 - (x : Int)) = (y : Int) := by omega
      rw [if_neg (show ¬ up1 = 0 by omega), if_neg (show ¬ up1 = 0 by omega), ey, w32i (x := 40 * (s : Int) + (i : Int) + (y : Int)) (by omega) (by omega), w32i (x := 40 * (t : Int) + (j : Int) + (y : Int)) (by omega) (by omega), if_pos (by omega), if_pos (by omega), bd_eq, bd_eq, show (40 * (s : Int) + (i : Int) + (y : Int)).toNat = s * 40 + i + y by omega, show (40 * (t : Int) + (j : Int) + (y : Int)).toNat = t * 40 + j + y by omega, hy, ← Nat.add_assoc, ← Nat.add_assoc, cp_bwd (fun q hq => by subst he; omega)]
      exact I
theorem RSh.copy {c r : St} (H : RSh c r) {s t i j n : Nat} (hs : s < 4) (ht : t < 4) (hms : c 52 s ≠ -1) (hi : (i : Int) + n ≤ c 53 s) (hj : (j : Int) + n ≤ c 53 t) (h40 : c 53 t ≤ 40) : RSh (cp c 54 (s * 40 + i) 54 (t * 40 + j) n) (cp r 129 (s * 40 + i) 129 (t * 40 + j) n) := by
  intro k hk
  rcases H s hs with z | ⟨_, _, _, _, _, _, zs⟩
  · exact absurd z.1 hms
  rcases H k hk with z | ⟨z1, z2, z3, z4, z5, z6, z7⟩
  · left
    rw [cp_ne (by omega), cp_ne (by omega)]
    exact z
  · right
    rw [cp_ne (by omega), cp_ne (by omega), cp_ne (by omega), cp_ne (by omega), cp_ne (by omega)]
    refine ⟨z1, z2, z3, z4, z5, z6, fun x hx => ?_⟩
    rw [cp_app, cp_app]
    by_cases e : t * 40 + j ≤ k * 40 + x ∧ k * 40 + x < t * 40 + j + n
    · rw [if_pos ⟨rfl, e⟩, if_pos ⟨rfl, e⟩]
      have := zs (i + (k * 40 + x - (t * 40 + j))) (by omega)
      rw [show s * 40 + i + (k * 40 + x - (t * 40 + j)) = s * 40 + (i + (k * 40 + x - (t * 40 + j))) by omega]
      exact this
    · rw [if_neg (fun y => e y.2), if_neg (fun y => e y.2)]
      exact z7 x hx
/-- copy() -/
theorem r_copy {N : Nat} (hN : 100 ≤ N) {c r : St} {a0 a1 a2 a3 a4 : Int} (h0 : r32 a0) (h1 : r32 a1) (h2 : r32 a2) (h3 : r32 a3) (h4 : r32 a4) (H : RG c r) : Two (d_x7_copy N c a0 a1 a2 a3 a4) (d_x8_copy N r a0 a1 a2 a3 a4) (QG c r) := by
  unfold d_x7_copy d_x8_copy
  have h1' := h1
  have h3' := h3
  have h4' := h4
  unfold r32 at h1' h3' h4'
  by_cases hh : 0 ≤ a0 ∧ a0 < 4
  · refine Two.cL (H7t h0 hh) (Two.eL (by decide) ?_)
    refine Two.cR (H8t h0 hh) (Two.eR (by decide) ?_)
    by_cases hh2 : 0 ≤ a2 ∧ a2 < 4
    · refine Two.cL (H7t h2 hh2) (Two.eL (by decide) ?_)
      refine Two.cR (H8t h2 hh2) (Two.eR (by decide) ?_)
      obtain ⟨s, rfl⟩ : ∃ s : Nat, a0 = s := ⟨a0.toNat, by omega⟩
      obtain ⟨t, rfl⟩ : ∃ t : Nat, a2 = t := ⟨a2.toNat, by omega⟩
      have hsh := H.2.2.2.2.1
      have gs : 0 ≤ w32 (s : Int) ∧ w32 (s : Int) < ((4 : Nat) : Int) := (by ((try simp (disch := omega) only [w32i, Int.toNat_natCast]) <;> omega))
      have gt : 0 ≤ w32 (t : Int) ∧ w32 (t : Int) < ((4 : Nat) : Int) := (by ((try simp (disch := omega) only [w32i, Int.toNat_natCast]) <;> omega))
      have s52 := hsh.r52 (h := s) (by omega)
      have t52 := hsh.r52 (h := t) (by omega)
      refine Two.cL (e_miss c (by omega) s52) ?_
      refine Two.iR gs ?_
      rw [w32i (x := (s : Int)) (by omega) (by omega), w32i (x := (t : Int)) (by omega) (by omega), Int.toNat_natCast, Int.toNat_natCast, hsh.r126 (h := s) (by omega)]
      by_cases hm : c 52 s = -1
      · rw [if_pos hm, if_pos hm]
        refine Two.eL (by decide) (Two.iR (by decide) ?_)
        exact Two.ret rfl (QG.refl H _)
      rw [if_neg hm, if_neg hm]
      refine Two.iL (by decide) (Two.eR (by decide) (Two.iR (by omega) ?_))
      refine Two.cL (e_miss c (by omega) t52) ?_
      rw [hsh.r126 (h := t) (by omega)]
      by_cases hm2 : c 52 t = -1
      · rw [if_pos hm2, if_pos hm2]
        refine Two.eL (by decide) (Two.iR (by decide) ?_)
        exact Two.ret rfl (QG.refl H _)
      rw [if_neg hm2, if_neg hm2]
      refine Two.iL (by decide) (Two.iL (by omega) (Two.iL (by omega) ?_))
      refine Two.eR (by decide) (Two.iR (by omega) (Two.iR (by omega) ?_))
      rcases hsh s (by omega) with z | ⟨z1, z2, z3, z4, z5, z6, z7⟩
      · exact absurd z.1 hm
      rcases hsh t (by omega) with y | ⟨y1, y2, y3, y4, y5, y6, y7⟩
      · exact absurd y.1 hm2
      rw [z3, y3, w32r s52, w32r t52]
      by_cases hso : c 52 s = c 52 t
      · refine Two.iL hso (Two.iR hso ?_)
        refine Two.cL (e_spans c (by omega) h1 h4 ⟨z5, z6⟩) ?_
        rw [z4, y4, w32r h4, w32r h1, w32r h3]
        have bad : ¬ ((0 ≤ a1 ∧ 0 ≤ a4 ∧ a1 + a4 ≤ c 53 s) ∧ (0 ≤ a3 ∧ 0 ≤ a4 ∧ a3 + a4 ≤ c 53 t)) → Two (some (c, -12)) (if a4 < 0 then some (r, (-12)) else if a1 < 0 then some (r, -12) else if a3 < 0 then some (r, -12) else if 0 ≤ (s : Int) ∧ (s : Int) < ((4 : Nat) : Int) then (if w32 (c 53 s - a4) < a1 then some (r, -12) else if 0 ≤ (t : Int) ∧ (t : Int) < ((4 : Nat) : Int) then (if w32 (c 53 t - a4) < a3 then some (r, -12) else if (s : Int) = (t : Int) then (if a1 < a3 then d_x8_copy_116 N r (s : Int) a1 (t : Int) a3 a4 1 else d_x8_copy_115 N r (s : Int) a1 (t : Int) a3 a4) else d_x8_copy_115 N r (s : Int) a1 (t : Int) a3 a4) else none) else none) (QG c r) := by
          intro hb
          by_cases b4 : a4 < 0
          · exact Two.iR b4 (Two.ret rfl (QG.refl H _))
          by_cases b1 : a1 < 0
          · exact Two.eR b4 (Two.iR b1 (Two.ret rfl (QG.refl H _)))
          by_cases b3 : a3 < 0
          · exact Two.eR b4 (Two.eR b1 (Two.iR b3 (Two.ret rfl (QG.refl H _))))
          refine Two.eR b4 (Two.eR b1 (Two.eR b3 (Two.iR (by omega) ?_)))
          rw [w32i (x := c 53 s - a4) (by omega) (by omega), w32i (x := c 53 t - a4) (by omega) (by omega)]
          by_cases b5 : c 53 s - a4 < a1
          · exact Two.iR b5 (Two.ret rfl (QG.refl H _))
          · exact Two.eR b5 (Two.iR (by omega) (Two.iR (by omega) (Two.ret rfl (QG.refl H _))))
        by_cases hi : 0 ≤ a1 ∧ 0 ≤ a4 ∧ a1 + a4 ≤ c 53 s
        · rw [if_pos hi]
          refine Two.eL (by decide) ?_
          refine Two.cL (e_spans c (by omega) h3 h4 ⟨y5, y6⟩) ?_
          by_cases hj : 0 ≤ a3 ∧ 0 ≤ a4 ∧ a3 + a4 ≤ c 53 t
          · rw [if_pos hj]
            refine Two.eL (by decide) ?_
            obtain ⟨i, rfl⟩ : ∃ i : Nat, a1 = i := ⟨a1.toNat, by omega⟩
            obtain ⟨j, rfl⟩ : ∃ j : Nat, a3 = j := ⟨a3.toNat, by omega⟩
            obtain ⟨n, rfl⟩ : ∃ n : Nat, a4 = n := ⟨a4.toNat, by omega⟩
            have em : d_x3_move N c (s : Int) (i : Int) (t : Int) (j : Int) (n : Int) = some (cp c 54 (s * 40 + i) 54 (t * 40 + j) n, 0) := by
              unfold d_x3_move
              rw [w32i (x := (n : Int)) (by omega) (by omega), w32i (x := (s : Int) * 40 + (i : Int)) (by omega) (by omega), w32i (x := (t : Int) * 40 + (j : Int)) (by omega) (by omega), if_pos (by omega), bd_eq, Int.toNat_natCast, show ((s : Int) * 40 + (i : Int)).toNat = s * 40 + i by omega, show ((t : Int) * 40 + (j : Int)).toNat = t * 40 + j by omega]
            refine Two.vL em ?_
            have hS := hsh.copy (s := s) (t := t) (i := i) (j := j) (n := n) (by omega) (by omega) hm (by omega) (by omega) y6
            have Q : ∀ v, QG c r (cp c 54 (s * 40 + i) 54 (t * 40 + j) n) (cp r 129 (s * 40 + i) 129 (t * 40 + j) n) v := QG.sheets H hS (Fr.cp (by unfold cSh; omega)) (Fr.cp (by unfold mSh; omega))
            refine Two.eR (by omega) (Two.eR (by omega) (Two.eR (by omega) (Two.iR (by omega) ?_)))
            rw [w32i (x := c 53 s - (n : Int)) (by omega) (by omega), w32i (x := c 53 t - (n : Int)) (by omega) (by omega)]
            refine Two.eR (by omega) (Two.iR (by omega) (Two.eR (by omega) ?_))
            have fwd : ¬ (s = t ∧ i < j) → d_x8_copy_115 N r (s : Int) (i : Int) (t : Int) (j : Int) (n : Int) = some (cp r 129 (s * 40 + i) 129 (t * 40 + j) n, (n : Int)) := by
              intro hn
              unfold d_x8_copy_115 d_x8_copy_116
              have l := e_cpM (N := N) (r := r) (s := s) (t := t) (i := i) (j := j) (n := n) (by omega) (by omega) (by omega) (by omega) (up1 := 0) (Or.inl ⟨rfl, hn⟩) n N 0 (by omega) (by omega)
              rw [if_pos (show (0 : Int) = 0 from rfl), cp_0] at l
              exact l
            by_cases est : s = t
            · refine Two.iR (by omega) ?_
              by_cases hlt : i < j
              · refine Two.iR (by omega) ?_
                unfold d_x8_copy_116
                have l := e_cpM (N := N) (r := r) (s := s) (t := t) (i := i) (j := j) (n := n) (by omega) (by omega) (by omega) (by omega) (up1 := 1) (Or.inr ⟨rfl, est, hlt⟩) n N 0 (by omega) (by omega)
                rw [if_neg (show ¬ (1 : Int) = 0 by decide), cp_0] at l
                have l' : d_x8_copy_121L N N r (s : Int) (i : Int) (t : Int) (j : Int) (n : Int) 1 0 = _ := l
                rw [l']
                exact Two.ret rfl (Q _)
              · refine Two.eR (by omega) ?_
                rw [fwd (fun z => hlt z.2)]
                exact Two.ret rfl (Q _)
            · refine Two.eR (by omega) ?_
              rw [fwd (fun z => est z.1)]
              exact Two.ret rfl (Q _)
          · rw [if_neg hj]
            refine Two.iL (by decide) ?_
            exact bad (fun z => hj z.2)
        · rw [if_neg hi]
          refine Two.iL (by decide) ?_
          exact bad (fun z => hi z.1)
      · refine Two.eL hso (Two.eR hso ?_)
        exact Two.ret rfl (QG.refl H _)
    · refine Two.cL (H7f h2 hh2) (Two.iL (by decide) ?_)
      refine Two.cR (H8f h2 hh2) (Two.iR (by decide) ?_)
      exact Two.ret rfl (QG.refl H _)
  · refine Two.cL (H7f h0 hh) (Two.iL (by decide) ?_)
    refine Two.cR (H8f h0 hh) (Two.iR (by decide) ?_)
    exact Two.ret rfl (QG.refl H _)
