section
theorem e_fill {N : Nat} (hN : 200 ≤ N) {c : St} (h18 : ∀ s : Nat, s < 8 → 0 ≤ c 18 s ∧ c 18 s ≤ 24) : d_x5_filledStreams N 17 8 c = some (c, sm (fun s => if 0 < c 18 s then 1 else 0) 8) := by
  have loop : ∀ (k m j : Nat), j + k = 8 → k < m → d_x5_filledStreams_4L N 17 8 m c (sm (fun s => if 0 < c 18 s then 1 else 0) j) (j : Int) = some (c, sm (fun s => if 0 < c 18 s then 1 else 0) 8) := by
    intro k
    induction k with
    | zero =>
      intro m j hj hm
      obtain ⟨m, rfl⟩ : ∃ m', m = m' + 1 := ⟨m - 1, by omega⟩
      have : j = 8 := by omega
      subst this
      show d_x5_filledStreams_4 N 17 8 (d_x5_filledStreams_4L N 17 8 m) c _ _ = _
      unfold d_x5_filledStreams_4
      rw [if_neg (by decide)]
    | succ k ih =>
      intro m j hj hm
      obtain ⟨m, rfl⟩ : ∃ m', m = m' + 1 := ⟨m - 1, by omega⟩
      have h := h18 j (by omega)
      show d_x5_filledStreams_4 N 17 8 (d_x5_filledStreams_4L N 17 8 m) c _ _ = _
      unfold d_x5_filledStreams_4 d_x5_filledStreams_25
      have i : d_x5_filledStreams_4L N 17 8 m c (sm (fun s => if 0 < c 18 s then 1 else 0) j + (if 0 < c 18 j then 1 else 0)) ((j : Int) + 1) = _ := ih m (j + 1) (by omega) (by omega)
      rw [w32i (x := (j : Int)) (by omega) (by omega), w32i (x := ((8 : Nat) : Int)) (by omega) (by omega), if_pos (by omega), if_pos (by omega), Int.toNat_natCast, show (17 : Nat) + 1 = 18 from rfl, w32i (x := c 18 j) (by omega) (by omega), bd_eq, bd_eq, bd_eq]
      by_cases e : 0 < c 18 j
      · rw [if_pos e] at i ⊢
        exact i
      · rw [if_neg e] at i ⊢
        rw [Int.add_zero] at i
        exact i
  unfold d_x5_filledStreams
  exact loop 8 N 0 (by omega) (by omega)
theorem e_full {N : Nat} (hN : 200 ≤ N) {r : St} (h18 : ∀ s : Nat, s < 8 → 0 ≤ r 78 s ∧ r 78 s ≤ 24) : d_x8_full N r = some (r, sm (fun s => if 0 < r 78 s then 1 else 0) 8) := by
  have loop : ∀ (k m j : Nat), j + k = 8 → k < m → d_x8_full_4L N m r (sm (fun s => if 0 < r 78 s then 1 else 0) j) (j : Int) = some (r, sm (fun s => if 0 < r 78 s then 1 else 0) 8) := by
    intro k
    induction k with
    | zero =>
      intro m j hj hm
      obtain ⟨m, rfl⟩ : ∃ m', m = m' + 1 := ⟨m - 1, by omega⟩
      have : j = 8 := by omega
      subst this
      show d_x8_full_4 N (d_x8_full_4L N m) r _ _ = _
      unfold d_x8_full_4
      rw [if_neg (by decide)]
    | succ k ih =>
      intro m j hj hm
      obtain ⟨m, rfl⟩ : ∃ m', m = m' + 1 := ⟨m - 1, by omega⟩
      have h := h18 j (by omega)
      show d_x8_full_4 N (d_x8_full_4L N m) r _ _ = _
      unfold d_x8_full_4 d_x8_full_25
      have i : d_x8_full_4L N m r (sm (fun s => if 0 < r 78 s then 1 else 0) j + (if 0 < r 78 j then 1 else 0)) ((j : Int) + 1) = _ := ih m (j + 1) (by omega) (by omega)
      rw [w32i (x := (j : Int)) (by omega) (by omega), if_pos (by omega), if_pos (by omega), Int.toNat_natCast, w32i (x := r 78 j) (by omega) (by omega), bd_eq, bd_eq, bd_eq, bd_eq]
      by_cases e : 0 < r 78 j
      · rw [if_pos e] at i ⊢
        exact i
      · rw [if_neg e] at i ⊢
        exact i
  unfold d_x8_full
  exact loop 8 N 0 (by omega) (by omega)
theorem fills {N : Nat} (hN : 200 ≤ N) {c r : St} (h18 : ∀ s : Nat, s < 8 → (0 ≤ c 18 s ∧ c 18 s ≤ 24) ∧ r 78 s = c 18 s) : ∃ v, d_x5_filledStreams N 17 8 c = some (c, v) ∧ d_x8_full N r = some (r, v) := by
  refine ⟨_, e_fill hN (fun s hs => (h18 s hs).1), ?_⟩
  rw [e_full hN (fun s hs => by have := h18 s hs; omega), sm_congr (f := fun s => if 0 < r 78 s then 1 else 0) (g := fun s => if 0 < c 18 s then 1 else 0) 8 (fun i hi => by rw [(h18 i hi).2])]
theorem e_allPt {N : Nat} (hN : 200 ≤ N) {c : St} (h18 : ∀ s : Nat, s < 8 → 0 ≤ c 18 s ∧ c 18 s ≤ 24) : d_x5_allParts N 17 8 c = some (c, sm (fun s => c 18 s) 8) := by
  have loop : ∀ (k m j : Nat), j + k = 8 → k < m → d_x5_allParts_4L N 17 8 m c (sm (fun s => c 18 s) j) (j : Int) = some (c, sm (fun s => c 18 s) 8) := by
    intro k
    induction k with
    | zero =>
      intro m j hj hm
      obtain ⟨m, rfl⟩ : ∃ m', m = m' + 1 := ⟨m - 1, by omega⟩
      have : j = 8 := by omega
      subst this
      show d_x5_allParts_4 N 17 8 (d_x5_allParts_4L N 17 8 m) c _ _ = _
      unfold d_x5_allParts_4
      rw [if_neg (by decide)]
    | succ k ih =>
      intro m j hj hm
      obtain ⟨m, rfl⟩ : ∃ m', m = m' + 1 := ⟨m - 1, by omega⟩
      have h := h18 j (by omega)
      show d_x5_allParts_4 N 17 8 (d_x5_allParts_4L N 17 8 m) c _ _ = _
      unfold d_x5_allParts_4
      have i : d_x5_allParts_4L N 17 8 m c (sm (fun s => c 18 s) j + c 18 j) ((j : Int) + 1) = _ := ih m (j + 1) (by omega) (by omega)
      rw [w32i (x := (j : Int)) (by omega) (by omega), w32i (x := ((8 : Nat) : Int)) (by omega) (by omega), if_pos (by omega), if_pos (by omega), Int.toNat_natCast, bd_eq, bd_eq]
      exact i
  unfold d_x5_allParts
  exact loop 8 N 0 (by omega) (by omega)
/-- count() -/
theorem r_count {N : Nat} (hN : 200 ≤ N) {c r : St} {a0 : Int} (h0 : r32 a0) (H : RG c r) : Two (d_x7_count N c a0) (d_x8_count N r a0) (QG c r) := by
  have hp := H.p18
  unfold d_x7_count d_x8_count
  rw [w32r h0]
  by_cases hi : 0 ≤ a0 ∧ a0 ≤ 6
  · rw [e_in32 N r h0 (by unfold r32; omega) (by unfold r32; omega), if_pos hi]
    refine Two.cR rfl (Two.eR (by decide) ?_)
    have m37 : ∀ (k m j : Nat), j + k = 8 → k < m → d_x8_count_37L N m r a0 (sm (fun s => r 78 s) j) (j : Int) = (if a0 = 0 then bI (d_x8_full N r) fun s1 v2 => some (s1, v2) else (if a0 = 1 then some (r, sm (fun s => r 78 s) 8) else (if a0 = 4 then some (r, r 77 39) else (if a0 = 5 then some (r, r 77 19) else some (r, r 77 9))))) := by
      intro k
      induction k with
      | zero =>
        intro m j hj hm
        obtain ⟨m, rfl⟩ : ∃ m', m = m' + 1 := ⟨m - 1, by omega⟩
        have : j = 8 := by omega
        subst this
        show d_x8_count_37 N (d_x8_count_37L N m) r a0 _ _ = _
        unfold d_x8_count_37
        rw [if_neg (by decide), w32r h0]
      | succ k ih =>
        intro m j hj hm
        obtain ⟨m, rfl⟩ : ∃ m', m = m' + 1 := ⟨m - 1, by omega⟩
        have h := hp j (by omega)
        show d_x8_count_37 N (d_x8_count_37L N m) r a0 _ _ = _
        unfold d_x8_count_37
        have i : d_x8_count_37L N m r a0 (sm (fun s => r 78 s) j + r 78 j) ((j : Int) + 1) = _ := ih m (j + 1) (by omega) (by omega)
        rw [w32i (x := (j : Int)) (by omega) (by omega), if_pos (by omega), if_pos (by omega), Int.toNat_natCast, bd_eq, bd_eq]
        exact i
    have m37' : d_x8_count_37L N N r a0 0 0 = _ := m37 8 N 0 (by omega) (by omega)
    have hl := H.2.2.2.2.2.1
    have hr := H.2.2.2.2.2.2
    have ht := H.1
    unfold RLi at hl
    unfold RR at hr
    unfold RT at ht
    have : a0 = 0 ∨ a0 = 1 ∨ a0 = 2 ∨ a0 = 3 ∨ a0 = 4 ∨ a0 = 5 ∨ a0 = 6 := by omega
    rcases this with e | e | e | e | e | e | e <;> subst e
    · obtain ⟨v, f1, f2⟩ := fills hN hp
      refine Two.iL rfl (Two.cL f1 ?_)
      refine Two.eR (by decide) (Two.eR (by decide) ?_)
      rw [m37']
      refine Two.iR rfl (Two.cR f2 ?_)
      exact Two.ret rfl (QG.refl H _)
    · refine Two.eL (by decide) (Two.iL rfl (Two.cL (e_allPt hN (fun s hs => (hp s hs).1)) ?_))
      refine Two.eR (by decide) (Two.eR (by decide) ?_)
      rw [m37']
      refine Two.eR (by decide) (Two.iR rfl ?_)
      exact Two.ret (sm_congr 8 (fun i hi => (hp i hi).2)) (QG.refl H _)
    · refine Two.eL (by decide) (Two.eL (by decide) (Two.iL rfl (Two.cL (e_allP hN H.2.1.2.2.1) ?_)))
      refine Two.iR rfl ?_
      unfold d_x8_count_25
      refine Two.cR (tA0 hN H) ?_
      exact Two.ret rfl (QG.refl H _)
    · refine Two.eL (by decide) (Two.eL (by decide) (Two.eL (by decide) (Two.iL rfl (Two.cL (e_allH hN H.2.1.2.2.1) ?_))))
      refine Two.eR (by decide) (Two.iR rfl ?_)
      unfold d_x8_count_25
      refine Two.cR (tA1 hN H) ?_
      exact Two.ret rfl (QG.refl H _)
    · refine Two.eL (by decide) (Two.eL (by decide) (Two.eL (by decide) (Two.eL (by decide) (Two.iL rfl ?_))))
      refine Two.eR (by decide) (Two.eR (by decide) ?_)
      rw [m37']
      refine Two.eR (by decide) (Two.eR (by decide) (Two.iR rfl ?_))
      exact Two.ret hr.1 (QG.refl H _)
    · refine Two.eL (by decide) (Two.eL (by decide) (Two.eL (by decide) (Two.eL (by decide) (Two.eL (by decide) (Two.iL rfl ?_)))))
      refine Two.eR (by decide) (Two.eR (by decide) ?_)
      rw [m37']
      refine Two.eR (by decide) (Two.eR (by decide) (Two.eR (by decide) (Two.iR rfl ?_)))
      exact Two.ret ht.1 (QG.refl H _)
    · refine Two.eL (by decide) (Two.eL (by decide) (Two.eL (by decide) (Two.eL (by decide) (Two.eL (by decide) (Two.eL (by decide) (Two.iL rfl ?_))))))
      refine Two.eR (by decide) (Two.eR (by decide) ?_)
      rw [m37']
      refine Two.eR (by decide) (Two.eR (by decide) (Two.eR (by decide) (Two.eR (by decide) ?_)))
      exact Two.ret hl.1 (QG.refl H _)
  · rw [e_in32 N r h0 (by unfold r32; omega) (by unfold r32; omega), if_neg hi]
    refine Two.cR rfl (Two.iR (by decide) ?_)
    (repeat (first | with_reducible refine Two.bdL ?_ | (with_reducible refine Two.iL ?_ ?_; · ((try simp (disch := omega) only [w32i, Int.toNat_natCast]) <;> omega)) | (with_reducible refine Two.eL ?_ ?_; · ((try simp (disch := omega) only [w32i, Int.toNat_natCast]) <;> omega))))
    exact Two.ret rfl (QG.refl H _)
/-- what part(), taken() have alike -/
theorem P_part {N : Nat} {c r : St} {a0 a1 a2 b : Int} (h0 : r32 a0) (h1 : r32 a1) (h2 : r32 a2) (hb : 0 ≤ b ∧ b ≤ 10) (H : RG c r) {K : St → Option Rs} {L : St → Option Rs} (hK : ∀ s k : Nat, s < 8 → k < 24 → a0 = s → a1 = k → (k : Int) < c 18 s → 0 ≤ a2 ∧ a2 ≤ b → Two (K c) (L r) (QG c r)) :
    Two (bI (d_x7_isStream N c a0) fun s1 v2 => (if (w32 v2) = 0 then some (s1, (-2)) else (if (w32 a2) < 0 then some (s1, (-2)) else (if b < (w32 a2) then some (s1, (-2)) else bI (d_x7_isEmpty N  s1 a0) fun s3 v4 => (if (w32 v4) = 0 then bI (d_x7_hasPart N  s3 a0 a1) fun s5 v6 => (if (w32 v6) = 0 then some (s5, (-12)) else K s5) else some (s3, (-3)))))))
      (bI (d_x8_isStream N r a0) fun s1 v2 => (if (w32 v2) = 0 then some (s1, (-2)) else bI (d_x8_in N  s1 (w32 a2) 0 b) fun s3 v4 => (if (w32 v4) = 0 then some (s3, (-2)) else if 0 ≤ (w32 a0) ∧ (w32 a0) < ((8 : Nat) : Int) then (if (w32 (s3 78 (Int.toNat (w32 a0)))) = 0 then some (s3, (-3)) else bI (d_x8_isPart N  s3 a0 a1) fun s5 v6 => (if (w32 v6) = 0 then some (s5, (-12)) else L s5)) else none))) (QG c r) := by
  by_cases hs : 0 ≤ a0 ∧ a0 < 8
  · refine Two.cL (S7t h0 hs) (Two.eL (by decide) ?_)
    refine Two.cR (S8t h0 hs) (Two.eR (by decide) ?_)
    by_cases hi : 0 ≤ a2 ∧ a2 ≤ b
    · refine Two.cR (int h2 (by unfold r32; omega) (by unfold r32; omega) hi) (Two.eR (by decide) ?_)
      refine Two.eL (by rw [w32r h2]; omega) (Two.eL (by rw [w32r h2]; omega) ?_)
      obtain ⟨s, rfl⟩ : ∃ s : Nat, a0 = s := ⟨a0.toNat, by omega⟩
      have hps := H.p18 s (by omega)
      refine Two.cL (Em (by omega) hps.1) ?_
      refine Two.iR (by ((try simp (disch := omega) only [w32i, Int.toNat_natCast]) <;> omega)) ?_
      rw [w32i (x := (s : Int)) (by omega) (by omega), Int.toNat_natCast, hps.2, w32i (x := c 18 s) (by omega) (by omega)]
      by_cases he : c 18 s = 0
      · rw [if_pos he]
        refine Two.eL (by decide) (Two.iR he ?_)
        exact Two.ret rfl (QG.refl H _)
      · rw [if_neg he]
        refine Two.iL (by decide) (Two.eR he ?_)
        refine Two.cL (e_hasP (by omega) h1 hps.1) ?_
        refine Two.cR (e_isP (by omega) h1 (by omega)) ?_
        rw [hps.2]
        by_cases hkp : 0 ≤ a1 ∧ a1 < c 18 s
        · rw [if_pos hkp]
          refine Two.eL (by decide) (Two.eR (by decide) ?_)
          exact hK s a1.toNat (by omega) (by omega) rfl (by omega) (by omega) hi
        · rw [if_neg hkp]
          refine Two.iL (by decide) (Two.iR (by decide) ?_)
          exact Two.ret rfl (QG.refl H _)
    · refine Two.cR (inf h2 (by unfold r32; omega) (by unfold r32; omega) hi) (Two.iR (by decide) ?_)
      by_cases hn : a2 < 0
      · refine Two.iL (by rw [w32r h2]; exact hn) ?_
        exact Two.ret rfl (QG.refl H _)
      · refine Two.eL (by rw [w32r h2]; exact hn) (Two.iL (by rw [w32r h2]; omega) ?_)
        exact Two.ret rfl (QG.refl H _)
  · refine Two.cL (S7f h0 hs) (Two.iL (by decide) ?_)
    refine Two.cR (S8f h0 hs) (Two.iR (by decide) ?_)
    exact Two.ret rfl (QG.refl H _)
/-- part() -/
theorem r_part {N : Nat} (hN : 200 ≤ N) {c r : St} {a0 a1 a2 : Int} (h0 : r32 a0) (h1 : r32 a1) (h2 : r32 a2) (H : RG c r) : Two (d_x7_part N c a0 a1 a2) (d_x8_part N r a0 a1 a2) (QG c r) := by
  unfold d_x7_part d_x8_part
  refine P_part h0 h1 h2 (by decide) H (fun s k hs hk e0 e1 hkp hi => ?_)
  subst e0 e1
  have hd : (24 * s + k) % 24 = k ∧ (24 * s + k) / 24 = s := sk hk
  have hvv : (((24 * s + k) % 24 : Nat) : Int) < c 18 ((24 * s + k) / 24) := by rw [hd.1, hd.2]; exact hkp
  have kd := H.kd (p := 24 * s + k) (by omega) hvv
  have f1 : ((s : Int) * 24 + (k : Int)) = ((24 * s + k : Nat) : Int) := by omega
  have f2 : (24 * (s : Int) + (k : Int)) = ((24 * s + k : Nat) : Int) := by omega
  refine Two.bdL (Two.bdR ?_)
  rw [f1, f2]
  have hp : 24 * s + k < 192 := by omega
  generalize 24 * s + k = p at *
  have hP := H.2.1.2.1.1 p hp
  unfold TP at hP
  have hg : 0 ≤ w32 (p : Int) ∧ w32 (p : Int) < ((192 : Nat) : Int) := (by ((try simp (disch := omega) only [w32i, Int.toNat_natCast]) <;> omega))
  have hH := H.hd hp
  rw [w32r h2]
  have : a2 = 0 ∨ a2 = 1 ∨ a2 = 2 ∨ a2 = 3 ∨ a2 = 4 ∨ a2 = 5 := by omega
  rcases this with e | e | e | e | e | e <;> subst e
  · refine Two.iL rfl (Two.iL hg ?_)
    refine Two.iR (by decide) (Two.iR rfl (Two.iR hg ?_))
    rw [w32i (x := (p : Int)) (by omega) (by omega), Int.toNat_natCast]
    exact Two.ret kd.1 (QG.refl H _)
  · refine Two.eL (by decide) (Two.iL rfl (Two.iL hg ?_))
    refine Two.iR (by decide) (Two.eR (by decide) (Two.iR rfl (Two.iR hg ?_)))
    rw [w32i (x := (p : Int)) (by omega) (by omega), Int.toNat_natCast]
    exact Two.ret kd.2.2.1 (QG.refl H _)
  · refine Two.eL (by decide) (Two.eL (by decide) (Two.iL rfl (Two.iL hg ?_)))
    refine Two.iR (by decide) (Two.eR (by decide) (Two.eR (by decide) (Two.iR hg ?_)))
    rw [w32i (x := (p : Int)) (by omega) (by omega), Int.toNat_natCast]
    exact Two.ret hP.1 (QG.refl H _)
  · refine Two.eL (by decide) (Two.eL (by decide) (Two.eL (by decide) (Two.iL rfl (Two.iL hg ?_))))
    refine Two.eR (by decide) (Two.iR rfl ?_)
    refine Two.cR (e_tH hN hp hH.1) ?_
    rw [w32i (x := (p : Int)) (by omega) (by omega), Int.toNat_natCast]
    exact Two.ret hH.2.symm (QG.refl H _)
  · refine Two.eL (by decide) (Two.eL (by decide) (Two.eL (by decide) (Two.eL (by decide) (Two.iL rfl (Two.iL hg ?_)))))
    refine Two.eR (by decide) (Two.eR (by decide) (Two.eR (by decide) (Two.iR hg ?_)))
    rw [w32i (x := (p : Int)) (by omega) (by omega), Int.toNat_natCast]
    rcases hP.2.2.2.1 with ⟨x1, x2⟩ | ⟨x1, x2⟩ | ⟨x1, x2, x3⟩
    · refine Two.iR (by rw [x2]; rfl) ?_
      exact Two.ret x1.symm (QG.refl H _)
    · refine Two.eR (by rw [x2]; decide) (Two.iR (by omega) (Two.iR (by rw [x2]; rfl) ?_))
      exact Two.ret x1.symm (QG.refl H _)
    · refine Two.eR (by rw [w32i (x := r 87 p) (by omega) (by omega)]; omega) (Two.iR (by omega) (Two.eR (by rw [w32i (x := r 87 p) (by omega) (by omega)]; omega) (Two.iR (by omega) ?_)))
      exact Two.ret x3 (QG.refl H _)
  · refine Two.eL (by decide) (Two.eL (by decide) (Two.eL (by decide) (Two.eL (by decide) (Two.eL (by decide) (Two.iL hg ?_)))))
    refine Two.eR (by decide) (Two.eR (by decide) (Two.iR rfl (Two.iR hg ?_)))
    rw [w32i (x := (p : Int)) (by omega) (by omega), Int.toNat_natCast, kd.1, w32i (x := c 19 p) (by omega) (by omega)]
    by_cases e2 : c 19 p = 2
    · refine Two.iL e2 (Two.iL (by omega) ?_)
      refine Two.iR e2 (Two.iR (by omega) ?_)
      exact Two.ret kd.2.2.2.1 (QG.refl H _)
    · refine Two.eL e2 (Two.eR e2 ?_)
      exact Two.ret rfl (QG.refl H _)
theorem e_grp {N : Nat} {s : St} {k : Int} (h : 0 ≤ k ∧ k ≤ 13) : d_x8_groupOf N s k = some (s, nro k) := by
  rcases k14 h with e | e | e | e | e | e | e | e | e | e | e | e | e | e <;> subst e <;> rfl
theorem nro_rng {k : Int} : 0 ≤ nro k ∧ nro k ≤ 2 := by
  unfold nro
  split
  · omega
  · split <;> omega
/-- taken() -/
theorem r_taken {N : Nat} {c r : St} {a0 a1 a2 : Int} (h0 : r32 a0) (h1 : r32 a1) (h2 : r32 a2) (H : RG c r) : Two (d_x7_taken N c a0 a1 a2) (d_x8_taken N r a0 a1 a2) (QG c r) := by
  unfold d_x7_taken d_x8_taken
  refine P_part h0 h1 h2 (by decide) H (fun s k hs hk e0 e1 hkp hi => ?_)
  subst e0 e1
  have hd : (24 * s + k) % 24 = k ∧ (24 * s + k) / 24 = s := sk hk
  have hvv : (((24 * s + k) % 24 : Nat) : Int) < c 18 ((24 * s + k) / 24) := by rw [hd.1, hd.2]; exact hkp
  have kd := H.kd (p := 24 * s + k) (by omega) hvv
  have f1 : ((s : Int) * 24 + (k : Int)) = ((24 * s + k : Nat) : Int) := by omega
  have f2 : (24 * (s : Int) + (k : Int)) = ((24 * s + k : Nat) : Int) := by omega
  refine Two.bdL ?_
  rw [f1, f2]
  have hp : 24 * s + k < 192 := by omega
  generalize 24 * s + k = p at *
  have hg : 0 ≤ w32 (p : Int) ∧ w32 (p : Int) < ((192 : Nat) : Int) := (by ((try simp (disch := omega) only [w32i, Int.toNat_natCast]) <;> omega))
  have hr := nro_rng (k := c 19 p)
  refine Two.iL hg (Two.iR hg ?_)
  rw [w32i (x := (p : Int)) (by omega) (by omega), Int.toNat_natCast, kd.1]
  refine Two.cL (e_rows ⟨kd.2.2.2.2.1, kd.2.2.2.2.2.1⟩) ?_
  refine Two.cR (e_grp ⟨kd.2.2.2.2.1, kd.2.2.2.2.2.1⟩) ?_
  rw [w32r h2, w32i (x := nro (c 19 p)) (by omega) (by omega)]
  by_cases e : nro (c 19 p) = a2
  · refine Two.iL e (Two.iL (by omega) ?_)
    refine Two.iR e (Two.iR (by omega) ?_)
    exact Two.ret (by rw [kd.2.2.1]) (QG.refl H _)
  · refine Two.eL e (Two.eR e ?_)
    exact Two.ret rfl (QG.refl H _)
/-- number() -/
theorem r_number {N : Nat} {c r : St} {a0 a1 : Int} (h0 : r32 a0) (h1 : r32 a1) (H : RG c r) : Two (d_x7_number N c a0 a1) (d_x8_number N r a0 a1) (QG c r) := by
  unfold d_x7_number d_x8_number
  by_cases hs : 0 ≤ a0 ∧ a0 < 8
  · refine Two.cR (S8t h0 hs) (Two.eR (by decide) ?_)
    obtain ⟨s, rfl⟩ : ∃ s : Nat, a0 = s := ⟨a0.toNat, by omega⟩
    have hps := H.p18 s (by omega)
    refine Two.cL (e_hasP (by omega) h1 hps.1) ?_
    refine Two.cR (e_isP (by omega) h1 (by omega)) ?_
    rw [hps.2]
    by_cases hkp : 0 ≤ a1 ∧ a1 < c 18 s
    · rw [if_pos hkp]
      refine Two.eL (by decide) (Two.eR (by decide) ?_)
      obtain ⟨k, rfl⟩ : ∃ k : Nat, a1 = k := ⟨a1.toNat, by omega⟩
      have hd : (24 * s + k) % 24 = k ∧ (24 * s + k) / 24 = s := sk (by omega)
      have hvv : (((24 * s + k) % 24 : Nat) : Int) < c 18 ((24 * s + k) / 24) := by rw [hd.1, hd.2]; exact hkp.2
      have kd := H.kd (p := 24 * s + k) (by omega) hvv
      have nm := H.nm (p := 24 * s + k) (by omega) hvv
      have f1 : ((s : Int) * 24 + (k : Int)) = ((24 * s + k : Nat) : Int) := by omega
      have f2 : (24 * (s : Int) + (k : Int)) = ((24 * s + k : Nat) : Int) := by omega
      refine Two.bdL ?_
      rw [f1, f2]
      have hp : 24 * s + k < 192 := by omega
      generalize 24 * s + k = p at *
      have hg : 0 ≤ w32 (p : Int) ∧ w32 (p : Int) < ((192 : Nat) : Int) := (by ((try simp (disch := omega) only [w32i, Int.toNat_natCast]) <;> omega))
      refine Two.iL hg (Two.iR hg ?_)
      rw [w32i (x := (p : Int)) (by omega) (by omega), Int.toNat_natCast, kd.1]
      have a := e_hn (N := N) (s := c) (k := c 19 p) ⟨kd.2.2.2.2.1, kd.2.2.2.2.2.1⟩
      have b := e_in8 (N := N) (s := r) (k := c 19 p) ⟨kd.2.2.2.2.1, kd.2.2.2.2.2.1⟩
      by_cases hnb : nb (c 19 p)
      · have nm := nm (by unfold nb at hnb; omega)
        refine Two.cL (a.1 hnb) (Two.eL (by decide) (Two.iL (by omega) ?_))
        refine Two.cR (b.1 hnb) (Two.eR (by decide) (Two.iR (by omega) ?_))
        exact Two.ret (by rw [nm.1, w32i (x := c 21 p) (by omega) (by omega)]) (QG.refl H _)
      · refine Two.cL (a.2 hnb) (Two.iL (by decide) ?_)
        refine Two.cR (b.2 hnb) (Two.iR (by decide) ?_)
        exact Two.ret rfl (QG.refl H _)
    · rw [if_neg hkp]
      refine Two.iL (by decide) (Two.iR (by decide) ?_)
      exact Two.ret rfl (QG.refl H _)
  · refine Two.cL (e_hasPf h0 hs) (Two.iL (by decide) ?_)
    refine Two.cR (S8f h0 hs) (Two.iR (by decide) ?_)
    exact Two.ret rfl (QG.refl H _)
/-- entry() -/
theorem r_entry {N : Nat} {c r : St} {a0 a1 a2 : Int} (h0 : r32 a0) (h1 : r32 a1) (h2 : r32 a2) (H : RG c r) : Two (d_x7_entry N c a0 a1 a2) (d_x8_entry N r a0 a1 a2) (QG c r) := by
  unfold d_x7_entry d_x8_entry
  by_cases hs : 0 ≤ a0 ∧ a0 < 8
  · refine Two.cR (S8t h0 hs) (Two.eR (by decide) ?_)
    obtain ⟨s, rfl⟩ : ∃ s : Nat, a0 = s := ⟨a0.toNat, by omega⟩
    have hps := H.p18 s (by omega)
    refine Two.cL (e_hasP (by omega) h1 hps.1) ?_
    refine Two.cR (e_isP (by omega) h1 (by omega)) ?_
    rw [hps.2]
    by_cases hkp : 0 ≤ a1 ∧ a1 < c 18 s
    · rw [if_pos hkp]
      refine Two.eL (by decide) (Two.eR (by decide) ?_)
      obtain ⟨k, rfl⟩ : ∃ k : Nat, a1 = k := ⟨a1.toNat, by omega⟩
      have hd : (24 * s + k) % 24 = k ∧ (24 * s + k) / 24 = s := sk (by omega)
      have hvv : (((24 * s + k) % 24 : Nat) : Int) < c 18 ((24 * s + k) / 24) := by rw [hd.1, hd.2]; exact hkp.2
      have kd := H.kd (p := 24 * s + k) (by omega) hvv
      have wf := H.wf (p := 24 * s + k) (by omega) hvv
      have f1 : ((s : Int) * 24 + (k : Int)) = ((24 * s + k : Nat) : Int) := by omega
      have f2 : (24 * (s : Int) + (k : Int)) = ((24 * s + k : Nat) : Int) := by omega
      refine Two.bdL ?_
      rw [f1, f2]
      have hp : 24 * s + k < 192 := by omega
      generalize 24 * s + k = p at *
      have hg : 0 ≤ w32 (p : Int) ∧ w32 (p : Int) < ((192 : Nat) : Int) := (by ((try simp (disch := omega) only [w32i, Int.toNat_natCast]) <;> omega))
      refine Two.iL hg (Two.iR hg ?_)
      rw [w32i (x := (p : Int)) (by omega) (by omega), Int.toNat_natCast, kd.1, w32i (x := c 19 p) (by omega) (by omega)]
      have h2' := h2
      unfold r32 at h2'
      by_cases e2 : c 19 p = 2
      · have w5 := wf.2.2.2.2.1
        rw [← tx_ct c r 19 p (by omega) (by omega), ← tx_ct c r 24 p (by omega) (by omega)] at w5
        have w5 := w5 e2
        refine Two.iL e2 (Two.iR e2 (Two.iR (by omega) ?_))
        rw [kd.2.2.2.1, w32i (x := c 24 p - 1) (by omega) (by omega), w32r h2, w32i (x := c 24 p) (by omega) (by omega)]
        refine Two.cR (e_in32 N r h2 (by unfold r32; omega) (by unfold r32; omega)) ?_
        by_cases hi : 0 ≤ a2 ∧ a2 < c 24 p
        · rw [if_pos (show 0 ≤ a2 ∧ a2 ≤ c 24 p - 1 by omega)]
          obtain ⟨i, rfl⟩ : ∃ i : Nat, a2 = i := ⟨a2.toNat, by omega⟩
          refine Two.eL (by omega) (Two.iL (by omega) (Two.iL (by omega) ?_))
          have g1 : 0 ≤ w32 ((p : Int) * 8 + (i : Int)) ∧ w32 ((p : Int) * 8 + (i : Int)) < ((1536 : Nat) : Int) := (by ((try simp (disch := omega) only [w32i, Int.toNat_natCast]) <;> omega))
          have g2 : 0 ≤ w32 (8 * (p : Int) + (i : Int)) ∧ w32 (8 * (p : Int) + (i : Int)) < ((1536 : Nat) : Int) := (by ((try simp (disch := omega) only [w32i, Int.toNat_natCast]) <;> omega))
          refine Two.iL g1 ?_
          refine Two.eR (by decide) (Two.iR g2 ?_)
          rw [w32i (x := (p : Int) * 8 + (i : Int)) (by omega) (by omega), w32i (x := 8 * (p : Int) + (i : Int)) (by omega) (by omega), show ((p : Int) * 8 + (i : Int)).toNat = 8 * p + i by omega, show (8 * (p : Int) + (i : Int)).toNat = 8 * p + i by omega]
          have w := w5.2.2 i hi.2
          rw [← tx_ct c r 25 _ (by omega) (by omega), ← tx_rt c r 85 _ (by omega) (by omega)] at w
          exact Two.ret w (QG.refl H _)
        · rw [if_neg (show ¬ (0 ≤ a2 ∧ a2 ≤ c 24 p - 1) by omega)]
          refine Two.iR (by decide) ?_
          by_cases hn : a2 < 0
          · refine Two.iL hn ?_
            exact Two.ret rfl (QG.refl H _)
          · refine Two.eL hn (Two.iL (by omega) (Two.eL (by omega) ?_))
            exact Two.ret rfl (QG.refl H _)
      · refine Two.eL e2 (Two.eR e2 ?_)
        exact Two.ret rfl (QG.refl H _)
    · rw [if_neg hkp]
      refine Two.iL (by decide) (Two.iR (by decide) ?_)
      exact Two.ret rfl (QG.refl H _)
  · refine Two.cL (e_hasPf h0 hs) (Two.iL (by decide) ?_)
    refine Two.cR (S8f h0 hs) (Two.iR (by decide) ?_)
    exact Two.ret rfl (QG.refl H _)
end
section
theorem g_sheet {N : Nat} (hN : 100 ≤ N) {c r : St} {a0 a1 a2 : Int} (h0 : r32 a0) (h1 : r32 a1) (h2 : r32 a2) (H : RG c r) : Two (d_x7_sheet N c a0 a1 a2) (d_x8_sheet N r a0 a1 a2) (QG c r) := by
  obtain ⟨c', r', v, e1, e2, S, F, G⟩ := r_sheet hN h0 h1 h2 H.2.2.2.2.1
  exact ⟨c', r', v, e1, e2, QG.sheets H S F G v⟩
theorem g_put {N : Nat} {c r : St} {a0 a1 a2 : Int} (h0 : r32 a0) (h1 : r32 a1) (H : RG c r) : Two (d_x7_put N c a0 a1 a2) (d_x8_put N r a0 a1 a2) (QG c r) := by
  obtain ⟨c', r', v, e1, e2, S, F, G⟩ := r_put (a2 := a2) h0 h1 H.2.2.2.2.1
  exact ⟨c', r', v, e1, e2, QG.sheets H S F G v⟩
theorem g_limit {N : Nat} {c r : St} {a0 : Int} (h0 : r32 a0) (H : RG c r) : Two (d_x7_limit N c a0) (d_x8_limit N r a0) (QG c r) := by
  obtain ⟨c', r', v, e1, e2, S, e, f⟩ := r_limit (N := N) h0 H.2.2.2.2.2.1
  refine ⟨c', r', v, e1, e2, ⟨H.1.cong (e _ _ (by omega)) (fun k => e _ _ (by omega)) (f _ _ (by omega)) (fun k => f _ _ (by omega)), H.2.1.cong (fun a k _ _ => e a k (by omega)) (fun a k _ _ => f a k (by omega)), ⟨H.2.2.1.1.cong (fun a k _ _ => e a k (by omega)), H.2.2.1.2.cong (fun a k _ _ => e a k (by omega))⟩, H.2.2.2.1.cong (fun a k _ _ => e a k (by omega)) (e _ _ (by omega)) (e _ _ (by omega)) (fun a k _ _ => f a k (by omega)) (f _ _ (by omega)) (f _ _ (by omega)), H.2.2.2.2.1.cong (fun a k _ _ => e a k (by omega)) (fun a k _ _ => f a k (by omega)), S, H.2.2.2.2.2.2.cong (e _ _ (by omega)) (f _ _ (by omega))⟩, fun a k _ => e a k (by omega), fun a k _ => f a k (by omega)⟩
/-- item() -/
theorem r_item {N : Nat} {c r : St} {a0 a1 : Int} (h0 : r32 a0) (h1 : r32 a1) (H : RG c r) : Two (d_x7_item N c a0 a1) (d_x8_item N r a0 a1) (QG c r) := by
  unfold d_x7_item d_x8_item
  have h1' := h1
  unfold r32 at h1'
  by_cases hh : 0 ≤ a0 ∧ a0 < 4
  · refine Two.cL (H7t h0 hh) (Two.eL (by decide) ?_)
    refine Two.cR (H8t h0 hh) (Two.eR (by decide) ?_)
    obtain ⟨h, rfl⟩ : ∃ h : Nat, a0 = h := ⟨a0.toNat, by omega⟩
    have hsh := H.2.2.2.2.1
    have h52 := hsh.r52 (h := h) (by omega)
    have h126 := hsh.r126 (h := h) (by omega)
    have hg : 0 ≤ w32 (h : Int) ∧ w32 (h : Int) < ((4 : Nat) : Int) := (by ((try simp (disch := omega) only [w32i, Int.toNat_natCast]) <;> omega))
    refine Two.cL (e_miss c (by omega) h52) ?_
    refine Two.iR hg ?_
    rw [w32i (x := (h : Int)) (by omega) (by omega), Int.toNat_natCast, h126]
    by_cases hm : c 52 h = -1
    · rw [if_pos hm, if_pos hm]
      refine Two.eL (by decide) (Two.iR (by decide) ?_)
      exact Two.ret rfl (QG.refl H _)
    · rw [if_neg hm, if_neg hm]
      refine Two.iL (by decide) (Two.eR (by decide) (Two.iR (by omega) ?_))
      rcases hsh h (by omega) with z | ⟨z1, z2, z3, z4, z5, z6, z7⟩
      · exact absurd z.1 hm
      refine Two.cL (e_spans c (by omega) h1 (by unfold r32; omega) ⟨z5, z6⟩) ?_
      rw [z4, w32i (x := c 53 h - 1) (by omega) (by omega), w32r h1]
      refine Two.cR (e_in32 N r h1 (by unfold r32; omega) (by unfold r32; omega)) ?_
      by_cases hi : 0 ≤ a1 ∧ a1 < c 53 h
      · rw [if_pos (show 0 ≤ a1 ∧ 0 ≤ (1 : Int) ∧ a1 + 1 ≤ c 53 h by omega), if_pos (show 0 ≤ a1 ∧ a1 ≤ c 53 h - 1 by omega)]
        obtain ⟨i, rfl⟩ : ∃ i : Nat, a1 = i := ⟨a1.toNat, by omega⟩
        refine Two.eL (by decide) (Two.eR (by decide) ?_)
        unfold d_x3_read
        have g1 : 0 ≤ w32 ((h : Int) * 40 + (i : Int)) ∧ w32 ((h : Int) * 40 + (i : Int)) < ((160 : Nat) : Int) := (by ((try simp (disch := omega) only [w32i, Int.toNat_natCast]) <;> omega))
        have g2 : 0 ≤ w32 (40 * (h : Int) + (i : Int)) ∧ w32 (40 * (h : Int) + (i : Int)) < ((160 : Nat) : Int) := (by ((try simp (disch := omega) only [w32i, Int.toNat_natCast]) <;> omega))
        refine Two.cL (if_pos g1) ?_
        refine Two.iR g2 ?_
        rw [w32i (x := (h : Int) * 40 + (i : Int)) (by omega) (by omega), w32i (x := 40 * (h : Int) + (i : Int)) (by omega) (by omega), show ((h : Int) * 40 + (i : Int)).toNat = h * 40 + i by omega, show (40 * (h : Int) + (i : Int)).toNat = h * 40 + i by omega]
        exact Two.ret (z7 i hi.2).symm (QG.refl H _)
      · rw [if_neg (show ¬ (0 ≤ a1 ∧ 0 ≤ (1 : Int) ∧ a1 + 1 ≤ c 53 h) by omega), if_neg (show ¬ (0 ≤ a1 ∧ a1 ≤ c 53 h - 1) by omega)]
        refine Two.iL (by decide) (Two.iR (by decide) ?_)
        exact Two.ret rfl (QG.refl H _)
  · refine Two.cL (H7f h0 hh) (Two.iL (by decide) ?_)
    refine Two.cR (H8f h0 hh) (Two.iR (by decide) ?_)
    exact Two.ret rfl (QG.refl H _)
theorem cp_0 {s : St} {a0 sp a1 dp : Nat} : cp s a0 sp a1 dp 0 = s := by
  funext b k
  rw [cp_app, if_neg (by omega)]
theorem cp_fwd {r : St} {a sp dp k : Nat} (h : ∀ q, q < k → dp + q ≠ sp + k) : up (cp r a sp a dp k) a (dp + k) (cp r a sp a dp k a (sp + k)) = cp r a sp a dp (k + 1) := by
  funext b x
  rw [up_app, cp_app (s := r) (b := b) (k := x) (n := k + 1)]
  have e : cp r a sp a dp k a (sp + k) = r a (sp + k) := by
    rw [cp_app, if_neg]
    rintro ⟨_, h1, h2⟩
    exact h (sp + k - dp) (by omega) (by omega)
  by_cases h1 : b = a ∧ x = dp + k
  · obtain ⟨rfl, rfl⟩ := h1
    rw [if_pos ⟨rfl, rfl⟩, if_pos (by omega), e, show sp + (dp + k - dp) = sp + k by omega]
  · rw [if_neg h1, cp_app]
    by_cases h2 : b = a ∧ dp ≤ x ∧ x < dp + k
    · rw [if_pos h2, if_pos (by omega)]
    · rw [if_neg h2, if_neg (by omega)]
theorem cp_bwd {r : St} {a sp dp k : Nat} (h : ∀ q, q < k → dp + 1 + q ≠ sp) : up (cp r a (sp + 1) a (dp + 1) k) a dp (cp r a (sp + 1) a (dp + 1) k a sp) = cp r a sp a dp (k + 1) := by
  funext b x
  rw [up_app, cp_app (s := r) (b := b) (k := x) (n := k + 1)]
  have e : cp r a (sp + 1) a (dp + 1) k a sp = r a sp := by
    rw [cp_app, if_neg]
    rintro ⟨_, h1, h2⟩
    exact h (sp - (dp + 1)) (by omega) (by omega)
  by_cases h1 : b = a ∧ x = dp
  · obtain ⟨rfl, rfl⟩ := h1
    rw [if_pos ⟨rfl, rfl⟩, if_pos (by omega), e, Nat.sub_self, Nat.add_zero]
  · rw [if_neg h1, cp_app]
    by_cases h2 : b = a ∧ dp + 1 ≤ x ∧ x < dp + 1 + k
    · rw [if_pos h2, if_pos (by omega), show sp + 1 + (x - (dp + 1)) = sp + (x - dp) by omega]
    · rw [if_neg h2, if_neg (by omega)]
theorem e_cpM {N : Nat} {r : St} {s t i j n : Nat} (hs : s < 4) (ht : t < 4) (hi : i + n ≤ 40) (hj : j + n ≤ 40) {up1 : Int} (hu : (up1 = 0 ∧ ¬ (s = t ∧ i < j)) ∨ (up1 = 1 ∧ s = t ∧ i < j)) : ∀ (k m x : Nat), x + k = n → k < m → d_x8_copy_121L N m (if up1 = 0 then cp r 129 (s * 40 + i) 129 (t * 40 + j) x else cp r 129 (s * 40 + i + (n - x)) 129 (t * 40 + j + (n - x)) x) (s : Int) (i : Int) (t : Int) (j : Int) (n : Int) up1 (x : Int) = some (cp r 129 (s * 40 + i) 129 (t * 40 + j) n, (n : Int)) := by
  intro k
  induction k with
  | zero =>
    intro m x hx hm
    obtain ⟨m, rfl⟩ : ∃ m', m = m' + 1 := ⟨m - 1, by omega⟩
    have : x = n := by omega
    subst this
    show d_x8_copy_121 N (d_x8_copy_121L N m) _ s i t j x up1 x = _
    unfold d_x8_copy_121
    rw [if_neg (show ¬ w32 (x : Int) < w32 (x : Int) by omega), Nat.sub_self, Nat.add_zero, Nat.add_zero, ite_self]
  | succ k ih =>
    intro m x hx hm
    obtain ⟨m, rfl⟩ : ∃ m', m = m' + 1 := ⟨m - 1, by omega⟩
    show d_x8_copy_121 N (d_x8_copy_121L N m) _ s i t j n up1 x = _
    unfold d_x8_copy_121 d_x8_copy_145
    rw [w32i (x := (x : Int)) (by omega) (by omega), w32i (x := (n : Int)) (by omega) (by omega), if_pos (show (x : Int) < (n : Int) by omega), w32i (x := up1) (by omega) (by omega)]
    have I := ih m (x + 1) (by omega) (by omega)
    rcases hu with ⟨u0, hn⟩ | ⟨u1, he, hl⟩
    · rw [if_pos u0] at I
      rw [if_pos u0, if_pos u0, w32i (x := 40 * (s : Int) + (i : Int) + (x : Int)) (by omega) (by omega), w32i (x := 40 * (t : Int) + (j : Int) + (x : Int)) (by omega) (by omega), if_pos (by omega), if_pos (by omega), bd_eq, bd_eq, show (40 * (s : Int) + (i : Int) + (x : Int)).toNat = s * 40 + i + x by omega, show (40 * (t : Int) + (j : Int) + (x : Int)).toNat = t * 40 + j + x by omega, cp_fwd (fun q hq => by
        by_cases e : s = t
        · subst e; omega
        · omega)]
      exact I
    · rw [if_neg (show ¬ up1 = 0 by omega)] at I
      obtain ⟨y, hy⟩ : ∃ y, n - x = y + 1 := ⟨n - x - 1, by omega⟩
      have hy2 : n - (x + 1) = y := by omega
      rw [hy2] at I
      have ey : ((n : Int) - 1 - (x : Int)) = (y : Int) := by omega
      rw [if_neg (show ¬ up1 = 0 by omega), if_neg (show ¬ up1 = 0 by omega), ey, w32i (x := 40 * (s : Int) + (i : Int) + (y : Int)) (by omega) (by omega), w32i (x := 40 * (t : Int) + (j : Int) + (y : Int)) (by omega) (by omega), if_pos (by omega), if_pos (by omega), bd_eq, bd_eq, show (40 * (s : Int) + (i : Int) + (y : Int)).toNat = s * 40 + i + y by omega, show (40 * (t : Int) + (j : Int) + (y : Int)).toNat = t * 40 + j + y by omega, hy, ← Nat.add_assoc, ← Nat.add_assoc, cp_bwd (fun q hq => by subst he; omega)]
      exact I
theorem RSh.copy {c r : St} (H : RSh c r) {s t i j n : Nat} (hs : s < 4) (ht : t < 4) (hms : c 52 s ≠ -1) (hi : (i : Int) + n ≤ c 53 s) (hj : (j : Int) + n ≤ c 53 t) (h40 : c 53 t ≤ 40) : RSh (cp c 54 (s * 40 + i) 54 (t * 40 + j) n) (cp r 129 (s * 40 + i) 129 (t * 40 + j) n) := by
  intro k hk
  rcases H s hs with z | ⟨_, _, _, _, _, _, zs⟩
  · exact absurd z.1 hms
  rcases H k hk with z | ⟨z1, z2, z3, z4, z5, z6, z7⟩
  · left
    rw [cp_ne (by omega), cp_ne (by omega)]
    exact z
  · right
    rw [cp_ne (by omega), cp_ne (by omega), cp_ne (by omega), cp_ne (by omega), cp_ne (by omega)]
    refine ⟨z1, z2, z3, z4, z5, z6, fun x hx => ?_⟩
    rw [cp_app, cp_app]
    by_cases e : t * 40 + j ≤ k * 40 + x ∧ k * 40 + x < t * 40 + j + n
    · rw [if_pos ⟨rfl, e⟩, if_pos ⟨rfl, e⟩]
      have := zs (i + (k * 40 + x - (t * 40 + j))) (by omega)
      rw [show s * 40 + i + (k * 40 + x - (t * 40 + j)) = s * 40 + (i + (k * 40 + x - (t * 40 + j))) by omega]
      exact this
    · rw [if_neg (fun y => e y.2), if_neg (fun y => e y.2)]
      exact z7 x hx
/-- copy() -/
theorem r_copy {N : Nat} (hN : 100 ≤ N) {c r : St} {a0 a1 a2 a3 a4 : Int} (h0 : r32 a0) (h1 : r32 a1) (h2 : r32 a2) (h3 : r32 a3) (h4 : r32 a4) (H : RG c r) : Two (d_x7_copy N c a0 a1 a2 a3 a4) (d_x8_copy N r a0 a1 a2 a3 a4) (QG c r) := by
  unfold d_x7_copy d_x8_copy
  have h1' := h1
  have h3' := h3
  have h4' := h4
  unfold r32 at h1' h3' h4'
  by_cases hh : 0 ≤ a0 ∧ a0 < 4
  · refine Two.cL (H7t h0 hh) (Two.eL (by decide) ?_)
    refine Two.cR (H8t h0 hh) (Two.eR (by decide) ?_)
    by_cases hh2 : 0 ≤ a2 ∧ a2 < 4
    · refine Two.cL (H7t h2 hh2) (Two.eL (by decide) ?_)
      refine Two.cR (H8t h2 hh2) (Two.eR (by decide) ?_)
      obtain ⟨s, rfl⟩ : ∃ s : Nat, a0 = s := ⟨a0.toNat, by omega⟩
      obtain ⟨t, rfl⟩ : ∃ t : Nat, a2 = t := ⟨a2.toNat, by omega⟩
      have hsh := H.2.2.2.2.1
      have gs : 0 ≤ w32 (s : Int) ∧ w32 (s : Int) < ((4 : Nat) : Int) := (by ((try simp (disch := omega) only [w32i, Int.toNat_natCast]) <;> omega))
      have gt : 0 ≤ w32 (t : Int) ∧ w32 (t : Int) < ((4 : Nat) : Int) := (by ((try simp (disch := omega) only [w32i, Int.toNat_natCast]) <;> omega))
      have s52 := hsh.r52 (h := s) (by omega)
      have t52 := hsh.r52 (h := t) (by omega)
      refine Two.cL (e_miss c (by omega) s52) ?_
      refine Two.iR gs ?_
      rw [w32i (x := (s : Int)) (by omega) (by omega), w32i (x := (t : Int)) (by omega) (by omega), Int.toNat_natCast, Int.toNat_natCast, hsh.r126 (h := s) (by omega)]
      by_cases hm : c 52 s = -1
      · rw [if_pos hm, if_pos hm]
        refine Two.eL (by decide) (Two.iR (by decide) ?_)
        exact Two.ret rfl (QG.refl H _)
      rw [if_neg hm, if_neg hm]
      refine Two.iL (by decide) (Two.eR (by decide) (Two.iR (by omega) ?_))
      refine Two.cL (e_miss c (by omega) t52) ?_
      rw [hsh.r126 (h := t) (by omega)]
      by_cases hm2 : c 52 t = -1
      · rw [if_pos hm2, if_pos hm2]
        refine Two.eL (by decide) (Two.iR (by decide) ?_)
        exact Two.ret rfl (QG.refl H _)
      rw [if_neg hm2, if_neg hm2]
      refine Two.iL (by decide) (Two.iL (by omega) (Two.iL (by omega) ?_))
      refine Two.eR (by decide) (Two.iR (by omega) (Two.iR (by omega) ?_))
      rcases hsh s (by omega) with z | ⟨z1, z2, z3, z4, z5, z6, z7⟩
      · exact absurd z.1 hm
      rcases hsh t (by omega) with y | ⟨y1, y2, y3, y4, y5, y6, y7⟩
      · exact absurd y.1 hm2
      rw [z3, y3, w32r s52, w32r t52]
      by_cases hso : c 52 s = c 52 t
      · refine Two.iL hso (Two.iR hso ?_)
        refine Two.cL (e_spans c (by omega) h1 h4 ⟨z5, z6⟩) ?_
        rw [z4, y4, w32r h4, w32r h1, w32r h3]
        have bad : ¬ ((0 ≤ a1 ∧ 0 ≤ a4 ∧ a1 + a4 ≤ c 53 s) ∧ (0 ≤ a3 ∧ 0 ≤ a4 ∧ a3 + a4 ≤ c 53 t)) → Two (some (c, -12)) (if a4 < 0 then some (r, (-12)) else if a1 < 0 then some (r, -12) else if a3 < 0 then some (r, -12) else if 0 ≤ (s : Int) ∧ (s : Int) < ((4 : Nat) : Int) then (if w32 (c 53 s - a4) < a1 then some (r, -12) else if 0 ≤ (t : Int) ∧ (t : Int) < ((4 : Nat) : Int) then (if w32 (c 53 t - a4) < a3 then some (r, -12) else if (s : Int) = (t : Int) then (if a1 < a3 then d_x8_copy_116 N r (s : Int) a1 (t : Int) a3 a4 1 else d_x8_copy_115 N r (s : Int) a1 (t : Int) a3 a4) else d_x8_copy_115 N r (s : Int) a1 (t : Int) a3 a4) else none) else none) (QG c r) := by
          intro hb
          by_cases b4 : a4 < 0
          · exact Two.iR b4 (Two.ret rfl (QG.refl H _))
          by_cases b1 : a1 < 0
          · exact Two.eR b4 (Two.iR b1 (Two.ret rfl (QG.refl H _)))
          by_cases b3 : a3 < 0
          · exact Two.eR b4 (Two.eR b1 (Two.iR b3 (Two.ret rfl (QG.refl H _))))
          refine Two.eR b4 (Two.eR b1 (Two.eR b3 (Two.iR (by omega) ?_)))
          rw [w32i (x := c 53 s - a4) (by omega) (by omega), w32i (x := c 53 t - a4) (by omega) (by omega)]
          by_cases b5 : c 53 s - a4 < a1
          · exact Two.iR b5 (Two.ret rfl (QG.refl H _))
          · exact Two.eR b5 (Two.iR (by omega) (Two.iR (by omega) (Two.ret rfl (QG.refl H _))))
        by_cases hi : 0 ≤ a1 ∧ 0 ≤ a4 ∧ a1 + a4 ≤ c 53 s
        · rw [if_pos hi]
          refine Two.eL (by decide) ?_
          refine Two.cL (e_spans c (by omega) h3 h4 ⟨y5, y6⟩) ?_
          by_cases hj : 0 ≤ a3 ∧ 0 ≤ a4 ∧ a3 + a4 ≤ c 53 t
          · rw [if_pos hj]
            refine Two.eL (by decide) ?_
            obtain ⟨i, rfl⟩ : ∃ i : Nat, a1 = i := ⟨a1.toNat, by omega⟩
            obtain ⟨j, rfl⟩ : ∃ j : Nat, a3 = j := ⟨a3.toNat, by omega⟩
            obtain ⟨n, rfl⟩ : ∃ n : Nat, a4 = n := ⟨a4.toNat, by omega⟩
            have em : d_x3_move N c (s : Int) (i : Int) (t : Int) (j : Int) (n : Int) = some (cp c 54 (s * 40 + i) 54 (t * 40 + j) n, 0) := by
              unfold d_x3_move
              rw [w32i (x := (n : Int)) (by omega) (by omega), w32i (x := (s : Int) * 40 + (i : Int)) (by omega) (by omega), w32i (x := (t : Int) * 40 + (j : Int)) (by omega) (by omega), if_pos (by omega), bd_eq, Int.toNat_natCast, show ((s : Int) * 40 + (i : Int)).toNat = s * 40 + i by omega, show ((t : Int) * 40 + (j : Int)).toNat = t * 40 + j by omega]
            refine Two.vL em ?_
            have hS := hsh.copy (s := s) (t := t) (i := i) (j := j) (n := n) (by omega) (by omega) hm (by omega) (by omega) y6
            have Q : ∀ v, QG c r (cp c 54 (s * 40 + i) 54 (t * 40 + j) n) (cp r 129 (s * 40 + i) 129 (t * 40 + j) n) v := QG.sheets H hS (Fr.cp (by unfold cSh; omega)) (Fr.cp (by unfold mSh; omega))
            refine Two.eR (by omega) (Two.eR (by omega) (Two.eR (by omega) (Two.iR (by omega) ?_)))
            rw [w32i (x := c 53 s - (n : Int)) (by omega) (by omega), w32i (x := c 53 t - (n : Int)) (by omega) (by omega)]
            refine Two.eR (by omega) (Two.iR (by omega) (Two.eR (by omega) ?_))
            have fwd : ¬ (s = t ∧ i < j) → d_x8_copy_115 N r (s : Int) (i : Int) (t : Int) (j : Int) (n : Int) = some (cp r 129 (s * 40 + i) 129 (t * 40 + j) n, (n : Int)) := by
              intro hn
              unfold d_x8_copy_115 d_x8_copy_116
              have l := e_cpM (N := N) (r := r) (s := s) (t := t) (i := i) (j := j) (n := n) (by omega) (by omega) (by omega) (by omega) (up1 := 0) (Or.inl ⟨rfl, hn⟩) n N 0 (by omega) (by omega)
              rw [if_pos (show (0 : Int) = 0 from rfl), cp_0] at l
              exact l
            by_cases est : s = t
            · refine Two.iR (by omega) ?_
              by_cases hlt : i < j
              · refine Two.iR (by omega) ?_
                unfold d_x8_copy_116
                have l := e_cpM (N := N) (r := r) (s := s) (t := t) (i := i) (j := j) (n := n) (by omega) (by omega) (by omega) (by omega) (up1 := 1) (Or.inr ⟨rfl, est, hlt⟩) n N 0 (by omega) (by omega)
                rw [if_neg (show ¬ (1 : Int) = 0 by decide), cp_0] at l
                have l' : d_x8_copy_121L N N r (s : Int) (i : Int) (t : Int) (j : Int) (n : Int) 1 0 = _ := l
                rw [l']
                exact Two.ret rfl (Q _)
              · refine Two.eR (by omega) ?_
                rw [fwd (fun z => hlt z.2)]
                exact Two.ret rfl (Q _)
            · refine Two.eR (by omega) ?_
              rw [fwd (fun z => est z.1)]
              exact Two.ret rfl (Q _)
          · rw [if_neg hj]
            refine Two.iL (by decide) ?_
            exact bad (fun z => hj z.2)
        · rw [if_neg hi]
          refine Two.iL (by decide) ?_
          exact bad (fun z => hi z.1)
      · refine Two.eL hso (Two.eR hso ?_)
        exact Two.ret rfl (QG.refl H _)
    · refine Two.cL (H7f h2 hh2) (Two.iL (by decide) ?_)
      refine Two.cR (H8f h2 hh2) (Two.iR (by decide) ?_)
      exact Two.ret rfl (QG.refl H _)
  · refine Two.cL (H7f h0 hh) (Two.iL (by decide) ?_)
    refine Two.cR (H8f h0 hh) (Two.iR (by decide) ?_)
    exact Two.ret rfl (QG.refl H _)
end
section
theorem XT.lay {T T' : St} (X : XT T) {s n : Nat} (hs : s < 8) (hn : 1 ≤ n ∧ n ≤ 8)
    (e1 : T' 18 s = 1 ∧ T' 78 s = 1 ∧ T' 19 (24 * s) = 2 ∧ T' 79 (24 * s) = 2 ∧ T' 20 (24 * s) = 0 ∧ T' 80 (24 * s) = 0 ∧ T' 23 (24 * s) = 1 ∧ T' 81 (24 * s) = 1 ∧ T' 24 (24 * s) = n ∧ T' 84 (24 * s) = n) (e2 : ∀ i : Nat, i < n → T' 85 (8 * (24 * s) + i) = T' 25 (8 * (24 * s) + i))
    (e3 : ∀ a, a < 8 → a ≠ s → T' 18 a = T 18 a ∧ T' 78 a = T 78 a) (e4 : ∀ a q, ((19 ≤ a ∧ a ≤ 24) ∨ (79 ≤ a ∧ a ≤ 84)) → q < 192 → q / 24 ≠ s → T' a q = T a q) (e5 : ∀ a q i, (a = 25 ∨ a = 85) → q < 192 → q / 24 ≠ s → i < 8 → T' a (8 * q + i) = T a (8 * q + i)) : XT T' := by
  have hvp : ∀ p, VP T' p → p / 24 ≠ s → VP T p := by
    intro p hp h
    unfold VP at *
    rw [(e3 _ (by omega) h).1] at hp
    exact hp
  have hvp2 : ∀ p q, p / 24 ≠ s → q / 24 = p / 24 → VP T q → VP T' q := by
    intro p q h1 h2 hq
    unfold VP at *
    rw [(e3 _ (by omega) (by omega)).1]
    exact hq
  refine ⟨⟨fun a ha => ?_, fun p hp => ?_⟩, fun a ha => ?_⟩
  · by_cases h : a = s
    · subst h
      omega
    · have z := e3 a ha h
      rw [z.1, z.2]
      exact X.1.1 a ha
  · by_cases h : p / 24 = s
    · have hp2 := hp.2
      rw [h, e1.1] at hp2
      have hpe : p = 24 * s := by omega
      subst hpe
      obtain ⟨a1, a2, a3, a4, a5, a6, a7, a8, a9, a10⟩ := e1
      unfold WFp
      rw [a3, a4, a5, a6, a7, a8, a9, a10]
      refine ⟨by omega, fun z => by omega, fun z => by omega, fun z => by omega, fun _ => ⟨by omega, by omega, fun i hi => e2 i (by omega)⟩, fun z => by omega, fun z => by omega, fun z => by omega, fun z => by omega, fun z => by omega, fun _ => rfl, fun z => by omega, fun z => by omega⟩
    · have hp1 := hp.1
      have w := X.1.2 p (hvp p hp h)
      have ee : ∀ a, ((19 ≤ a ∧ a ≤ 24) ∨ (79 ≤ a ∧ a ≤ 84)) → T' a p = T a p := fun a x => e4 a p x hp1 h
      obtain ⟨w1, w2, w3, w4, w5, w6, w7, w8, w9, w10, w11, w12, w13⟩ := w
      unfold WFp
      rw [ee 19 (by omega), ee 20 (by omega), ee 21 (by omega), ee 22 (by omega), ee 23 (by omega), ee 24 (by omega), ee 79 (by omega), ee 80 (by omega), ee 81 (by omega), ee 82 (by omega), ee 83 (by omega), ee 84 (by omega)]
      refine ⟨w1, w2, w3, w4, fun z => ⟨(w5 z).1, (w5 z).2.1, fun i hi => ?_⟩, w6, w7, w8, w9, w10, w11, fun z => ⟨hvp2 p _ h (w12 z).2 (w12 z).1, (w12 z).2⟩, fun z => ?_⟩
      · have := (w5 z).2.1
        rw [e5 85 p i (by omega) hp1 h (by omega), e5 25 p i (by omega) hp1 h (by omega)]
        exact (w5 z).2.2 i hi
      · have a := w12 (by omega)
        rw [e4 23 (p + 1) (by omega) a.1.1 (by omega)]
        exact ⟨hvp2 p _ h (w13 z).2 (w13 z).1, (w13 z).2⟩
  · by_cases h : a = s
    · subst h
      exact Or.inr ⟨e1.1, e1.2.2.1⟩
    · have w := X.2 a ha
      have z := e3 a ha h
      have x := X.1.1 a ha
      rcases w with ⟨w1, w2⟩ | w
      · left
        rw [z.1]
        refine ⟨?_, fun k hk h2 i hi => ?_⟩
        · rw [sm_congr (f := fun k => tk T' (24 * a + k)) (g := fun k => tk T (24 * a + k)) (T 18 a).toNat (fun k hk => ?_)]
          · exact w1
          · have hd : (24 * a + k) / 24 = a := by omega
            unfold tk
            rw [e4 19 _ (by omega) (by omega) (by omega), e4 24 _ (by omega) (by omega) (by omega)]
        · rw [e4 19 _ (by omega) (by omega) (by omega)] at h2
          rw [e4 24 _ (by omega) (by omega) (by omega)] at hi
          have hv : VP T (24 * a + k) := ⟨by omega, by rw [(sk (by omega)).1, (sk (by omega)).2]; exact hk⟩
          have := (X.1.2 _ hv).2.2.2.2.1 h2
          rw [e5 25 _ i (by omega) (by omega) (by omega) (by omega)]
          exact w2 k hk h2 i hi
      · right
        rw [z.1, e4 19 _ (by omega) (by omega) (by omega)]
        exact w
theorem cp_ext {c : St} {a0 a1 sp dp k : Nat} (h : a0 ≠ a1) : up (cp c a0 sp a1 dp k) a1 (dp + k) (cp c a0 sp a1 dp k a0 (sp + k)) = cp c a0 sp a1 dp (k + 1) := by
  funext b x
  rw [up_app, cp_app (s := c) (b := b) (k := x) (n := k + 1), cp_ne h]
  by_cases h1 : b = a1 ∧ x = dp + k
  · obtain ⟨rfl, rfl⟩ := h1
    rw [if_pos ⟨rfl, rfl⟩, if_pos (by omega), show sp + (dp + k - dp) = sp + k by omega]
  · rw [if_neg h1, cp_app]
    by_cases h2 : b = a1 ∧ dp ≤ x ∧ x < dp + k
    · rw [if_pos h2, if_pos (by omega)]
    · rw [if_neg h2, if_neg (by omega)]
theorem e_close1 {N : Nat} (hN : 100 ≤ N) {c : St} {s : Nat} (hs : s < 8) (h : c 19 (24 * s) = 2) : d_x5_close N 17 8 c (s : Int) 1 = some (up (up c 18 s 1) 23 (24 * s) 1, 0) := by
  unfold d_x5_close
  rw [w32i (x := (s : Int)) (by omega) (by omega), if_pos (by omega), bd_eq, bd_eq, bd_eq, Int.toNat_natCast, show (17 : Nat) + 1 = 18 from rfl]
  obtain ⟨m, hm⟩ : ∃ m, N = m + 2 := ⟨N - 2, by omega⟩
  have l1 : ∀ d : St, d_x5_close_19L N 17 8 (m + 1) d 1 ((s : Int) * 24) ((s : Int) * 24 + -1) = some (d, 0) := by
    intro d
    show d_x5_close_19 N 17 8 (d_x5_close_19L N 17 8 m) d 1 _ _ = _
    unfold d_x5_close_19
    rw [w32i (x := (s : Int) * 24 + -1) (by omega) (by omega), w32i (x := (s : Int) * 24) (by omega) (by omega), if_pos (by omega)]
  have l2 : d_x5_close_19L N 17 8 (m + 2) (up c 18 s 1) 1 ((s : Int) * 24) ((s : Int) * 24) = some (up (up c 18 s 1) 23 (24 * s) 1, 0) := by
    show d_x5_close_19 N 17 8 (d_x5_close_19L N 17 8 (m + 1)) (up c 18 s 1) 1 _ _ = _
    unfold d_x5_close_19
    have e : up c 18 s 1 19 (24 * s) = 2 := by rw [up_ne (by omega)]; exact h
    rw [w32i (x := (s : Int) * 24) (by omega) (by omega), if_neg (by omega), if_pos (by omega), show ((s : Int) * 24).toNat = 24 * s by omega, show (17 : Nat) + 2 = 19 from rfl, e, e_rows (by decide), bI_some]
    obtain ⟨m', hm'⟩ : ∃ m', N = m' + 1 := ⟨N - 1, by omega⟩
    have g : d_x5_close_43L N 17 8 (d_x5_close_19L N 17 8 (m + 1)) N (up c 18 s 1) 1 ((s : Int) * 24) ((s : Int) * 24) (nro 2) 1 0 = d_x5_close_43 N 17 8 (d_x5_close_19L N 17 8 (m + 1)) (d_x5_close_43L N 17 8 (d_x5_close_19L N 17 8 (m + 1)) m') (up c 18 s 1) 1 ((s : Int) * 24) ((s : Int) * 24) (nro 2) 1 0 := by
      conv => lhs; arg 5; rw [hm']
      rfl
    rw [g]
    unfold d_x5_close_43 d_x5_close_82
    rw [if_neg (show ¬ w32 0 < w32 (nro 2) by decide), w32i (x := (s : Int) * 24) (by omega) (by omega), if_pos (by omega), bd_eq, bd_eq, show ((s : Int) * 24).toNat = 24 * s by omega, show (17 : Nat) + 6 = 23 from rfl]
    exact l1 _
  have l3 : d_x5_close_19L N 17 8 N (up c 18 s 1) 1 ((s : Int) * 24) ((s : Int) * 24 + 1 - 1) = d_x5_close_19L N 17 8 (m + 2) (up c 18 s 1) 1 ((s : Int) * 24) ((s : Int) * 24) := by
    rw [show (s : Int) * 24 + 1 - 1 = (s : Int) * 24 by omega, ← hm]
  rw [l3]
  exact l2
/-- lay() -/
theorem r_lay {N : Nat} (hN : 200 ≤ N) {c r : St} {a0 a1 a2 a3 a4 : Int} (h0 : r32 a0) (h1 : r32 a1) (h2 : r32 a2) (h3 : r32 a3) (h4 : r32 a4) (H : RG c r) : Two (d_x7_lay N c a0 a1 a2 a3 a4) (d_x8_lay N r a0 a1 a2 a3 a4) (QG c r) := by
  unfold d_x7_lay d_x8_lay
  have h2' := h2
  have h3' := h3
  have h4' := h4
  unfold r32 at h2' h3' h4'
  by_cases hh : 0 ≤ a0 ∧ a0 < 4
  rotate_left
  · refine Two.cL (H7f h0 hh) (Two.iL (by decide) ?_)
    refine Two.cR (H8f h0 hh) (Two.iR (by decide) ?_)
    exact Two.ret rfl (QG.refl H _)
  refine Two.cL (H7t h0 hh) (Two.eL (by decide) ?_)
  refine Two.cR (H8t h0 hh) (Two.eR (by decide) ?_)
  by_cases hs : 0 ≤ a1 ∧ a1 < 8
  rotate_left
  · refine Two.cL (S7f h1 hs) (Two.iL (by decide) ?_)
    refine Two.cR (S8f h1 hs) (Two.iR (by decide) ?_)
    exact Two.ret rfl (QG.refl H _)
  refine Two.cL (S7t h1 hs) (Two.eL (by decide) ?_)
  refine Two.cR (S8t h1 hs) (Two.eR (by decide) ?_)
  by_cases hq : 0 ≤ a2 ∧ a2 ≤ 2
  rotate_left
  · refine Two.cR (inf h2 (by unfold r32; omega) (by unfold r32; omega) hq) (Two.iR (by decide) ?_)
    by_cases hn : a2 < 0
    · exact Two.iL (by rw [w32r h2]; exact hn) (Two.ret rfl (QG.refl H _))
    · exact Two.eL (by rw [w32r h2]; exact hn) (Two.iL (by rw [w32r h2]; omega) (Two.ret rfl (QG.refl H _)))
  refine Two.cR (int h2 (by unfold r32; omega) (by unfold r32; omega) hq) (Two.eR (by decide) ?_)
  refine Two.eL (by rw [w32r h2]; omega) (Two.eL (by rw [w32r h2]; omega) ?_)
  by_cases hn : 1 ≤ a4 ∧ a4 ≤ 8
  rotate_left
  · refine Two.cR (inf h4 (by unfold r32; omega) (by unfold r32; omega) hn) (Two.iR (by decide) ?_)
    by_cases hn1 : a4 < 1
    · exact Two.iL (by rw [w32r h4]; exact hn1) (Two.ret rfl (QG.refl H _))
    · exact Two.eL (by rw [w32r h4]; exact hn1) (Two.iL (by rw [w32r h4]; omega) (Two.ret rfl (QG.refl H _)))
  refine Two.cR (int h4 (by unfold r32; omega) (by unfold r32; omega) hn) (Two.eR (by decide) ?_)
  refine Two.eL (by rw [w32r h4]; omega) (Two.eL (by rw [w32r h4]; omega) ?_)
  obtain ⟨h, rfl⟩ : ∃ h : Nat, a0 = h := ⟨a0.toNat, by omega⟩
  obtain ⟨s, rfl⟩ : ∃ s : Nat, a1 = s := ⟨a1.toNat, by omega⟩
  obtain ⟨n, rfl⟩ : ∃ n : Nat, a4 = n := ⟨a4.toNat, by omega⟩
  have hsh := H.2.2.2.2.1
  have h52 := hsh.r52 (h := h) (by omega)
  have h126 := hsh.r126 (h := h) (by omega)
  have hg : 0 ≤ w32 (h : Int) ∧ w32 (h : Int) < ((4 : Nat) : Int) := (by ((try simp (disch := omega) only [w32i, Int.toNat_natCast]) <;> omega))
  have hgs : 0 ≤ w32 (s : Int) ∧ w32 (s : Int) < ((8 : Nat) : Int) := (by ((try simp (disch := omega) only [w32i, Int.toNat_natCast]) <;> omega))
  have hgp : 0 ≤ w32 ((s : Int) * 24) ∧ w32 ((s : Int) * 24) < ((192 : Nat) : Int) := (by ((try simp (disch := omega) only [w32i, Int.toNat_natCast]) <;> omega))
  have hgp2 : 0 ≤ w32 (24 * (s : Int)) ∧ w32 (24 * (s : Int)) < ((192 : Nat) : Int) := (by ((try simp (disch := omega) only [w32i, Int.toNat_natCast]) <;> omega))
  have key : Two (d_x7_lay_69 N c (h : Int) (s : Int) a3 (n : Int)) (d_x8_lay_64 N r (h : Int) (s : Int) a3 (n : Int)) (QG c r) := by
    unfold d_x7_lay_69 d_x8_lay_64
    refine Two.cL (e_miss c (by omega) h52) ?_
    refine Two.iR hg ?_
    rw [w32i (x := (h : Int)) (by omega) (by omega), Int.toNat_natCast, h126]
    by_cases hm : c 52 h = -1
    · rw [if_pos hm, if_pos hm]
      refine Two.eL (by decide) (Two.iR (by decide) ?_)
      exact Two.ret rfl (QG.refl H _)
    rw [if_neg hm, if_neg hm]
    refine Two.iL (by decide) (Two.eR (by decide) ?_)
    rcases hsh h (by omega) with z | ⟨z1, z2, z3, z4, z5, z6, z7⟩
    · exact absurd z.1 hm
    refine Two.cL (e_spans c (by omega) h3 h4 ⟨z5, z6⟩) ?_
    rw [z4, w32r h3, w32i (x := c 53 h - (n : Int)) (by omega) (by omega)]
    by_cases hi : 0 ≤ a3 ∧ 0 ≤ (n : Int) ∧ a3 + (n : Int) ≤ c 53 h
    rotate_left
    · rw [if_neg hi]
      refine Two.iL (by decide) ?_
      by_cases hneg : a3 < 0
      · exact Two.iR hneg (Two.ret rfl (QG.refl H _))
      · exact Two.eR hneg (Two.iR (by omega) (Two.iR (by omega) (Two.ret rfl (QG.refl H _))))
    rw [if_pos hi]
    obtain ⟨f, rfl⟩ : ∃ f : Nat, a3 = f := ⟨a3.toNat, by omega⟩
    refine Two.eL (by decide) (Two.bdL ?_)
    refine Two.eR (by omega) (Two.iR (by omega) (Two.eR (by omega) (Two.bdR ?_)))
    -- the class
    obtain ⟨c1, hc1⟩ : ∃ c1, c1 = up (up (up (up (up (up c 19 (24 * s) 2) 20 (24 * s) 0) 21 (24 * s) 0) 22 (24 * s) 0) 24 (24 * s) 0) 24 (24 * s) n := ⟨_, rfl⟩
    have eclr : d_x5_clearPart N 17 8 c ((s : Int) * 24) 2 = some (up (up (up (up (up c 19 (24 * s) 2) 20 (24 * s) 0) 21 (24 * s) 0) 22 (24 * s) 0) 24 (24 * s) 0, 0) := by
      unfold d_x5_clearPart
      have g : 0 ≤ w32 ((s : Int) * 24) ∧ w32 ((s : Int) * 24) < ((8 * 24 : Nat) : Int) := hgp
      rw [if_pos g, bd_eq, if_pos g, bd_eq, if_pos g, bd_eq, if_pos g, bd_eq, if_pos g, bd_eq, w32i (x := (s : Int) * 24) (by omega) (by omega), show ((s : Int) * 24).toNat = 24 * s by omega]
    refine Two.vL eclr ?_
    refine Two.iL hgp (Two.bdL ?_)
    rw [w32i (x := (s : Int) * 24) (by omega) (by omega), show ((s : Int) * 24).toNat = 24 * s by omega, ← hc1]
    have hc1x : ∀ a k, ¬ (19 ≤ a ∧ a ≤ 24 ∧ k = 24 * s) → c1 a k = c a k := by
      intro a k z
      rw [hc1, up_app, if_neg (by omega), up_app, if_neg (by omega), up_app, if_neg (by omega), up_app, if_neg (by omega), up_app, if_neg (by omega), up_app, if_neg (by omega)]
    have c19 : c1 19 (24 * s) = 2 := by rw [hc1, up_ne (by omega), up_ne (by omega), up_ne (by omega), up_ne (by omega), up_ne (by omega), up_same]
    have c20 : c1 20 (24 * s) = 0 := by rw [hc1, up_ne (by omega), up_ne (by omega), up_ne (by omega), up_ne (by omega), up_same]
    have c24 : c1 24 (24 * s) = n := by rw [hc1, up_same]
    have LC : ∀ (k m i : Nat), i + k = n → k < m → d_x7_lay_132L N m (cp c1 54 (h * 40 + f) 25 (8 * (24 * s)) i) (h : Int) (s : Int) (f : Int) (n : Int) ((s : Int) * 24) (i : Int) = bV (d_x5_close N 17 8 (cp c1 54 (h * 40 + f) 25 (8 * (24 * s)) n) (s : Int) 1) fun s1 => bV (d_x6_untell N 26 s1 ) fun s3 => some (s3, (n : Int)) := by
      intro k
      induction k with
      | zero =>
        intro m i hi' hm'
        obtain ⟨m, rfl⟩ : ∃ m', m = m' + 1 := ⟨m - 1, by omega⟩
        have : i = n := by omega
        subst this
        show d_x7_lay_132 N (d_x7_lay_132L N m) _ h s f i _ i = _
        unfold d_x7_lay_132
        rw [if_neg (Int.lt_irrefl _)]
      | succ k ih =>
        intro m i hi' hm'
        obtain ⟨m, rfl⟩ : ∃ m', m = m' + 1 := ⟨m - 1, by omega⟩
        show d_x7_lay_132 N (d_x7_lay_132L N m) _ h s f n _ i = _
        unfold d_x7_lay_132 d_x3_read
        rw [w32i (x := (i : Int)) (by omega) (by omega), w32i (x := (n : Int)) (by omega) (by omega), if_pos (by omega), w32i (x := (h : Int) * 40 + ((f : Int) + (i : Int))) (by omega) (by omega), if_pos (by omega), bI_some, w32i (x := (s : Int) * 24 * 8 + (i : Int)) (by omega) (by omega), if_pos (by omega), bd_eq, bd_eq, show ((h : Int) * 40 + ((f : Int) + (i : Int))).toNat = h * 40 + f + i by omega, show ((s : Int) * 24 * 8 + (i : Int)).toNat = 8 * (24 * s) + i by omega, cp_ext (by decide)]
        exact ih m (i + 1) (by omega) (by omega)
    have LC0 := LC n N 0 (by omega) (by omega)
    rw [cp_0] at LC0
    have LC1 : d_x7_lay_132L N N c1 (h : Int) (s : Int) (f : Int) (n : Int) ((s : Int) * 24) 0 = _ := LC0
    rw [LC1]
    -- the model
    obtain ⟨r1, hr1⟩ : ∃ r1, r1 = up (up (up (up (up r 78 s 1) 79 (24 * s) 2) 80 (24 * s) 0) 81 (24 * s) 1) 84 (24 * s) n := ⟨_, rfl⟩
    refine Two.iR hgs (Two.bdR (Two.iR hgp2 (Two.bdR (Two.iR hgp2 (Two.bdR (Two.iR hgp2 (Two.bdR (Two.iR hgp2 (Two.bdR ?_)))))))))
    rw [w32i (x := (s : Int)) (by omega) (by omega), Int.toNat_natCast, w32i (x := 24 * (s : Int)) (by omega) (by omega), show (24 * (s : Int)).toNat = 24 * s by omega, ← hr1]
    have hr1x : ∀ a k, ¬ (a = 78 ∧ k = s) → ¬ (79 ≤ a ∧ a ≤ 84 ∧ a ≠ 82 ∧ a ≠ 83 ∧ k = 24 * s) → r1 a k = r a k := by
      intro a k z y
      rw [hr1, up_app, if_neg (by omega), up_app, if_neg (by omega), up_app, if_neg (by omega), up_app, if_neg (by omega), up_app, if_neg (by omega)]
    have r78 : r1 78 s = 1 := by rw [hr1, up_ne (by omega), up_ne (by omega), up_ne (by omega), up_ne (by omega), up_same]
    have r79 : r1 79 (24 * s) = 2 := by rw [hr1, up_ne (by omega), up_ne (by omega), up_ne (by omega), up_same]
    have r80 : r1 80 (24 * s) = 0 := by rw [hr1, up_ne (by omega), up_ne (by omega), up_same]
    have r81 : r1 81 (24 * s) = 1 := by rw [hr1, up_ne (by omega), up_same]
    have r84 : r1 84 (24 * s) = n := by rw [hr1, up_same]
    have LM : ∀ (k m i : Nat), i + k = n → k < m → d_x8_lay_147L N m (cp r1 129 (h * 40 + f) 85 (8 * (24 * s)) i) (h : Int) (f : Int) (n : Int) (24 * (s : Int)) (i : Int) = bV (d_x8_untells N (cp r1 129 (h * 40 + f) 85 (8 * (24 * s)) n)) fun s1 => some (s1, (n : Int)) := by
      intro k
      induction k with
      | zero =>
        intro m i hi' hm'
        obtain ⟨m, rfl⟩ : ∃ m', m = m' + 1 := ⟨m - 1, by omega⟩
        have : i = n := by omega
        subst this
        show d_x8_lay_147 N (d_x8_lay_147L N m) _ h f i _ i = _
        unfold d_x8_lay_147
        rw [if_neg (Int.lt_irrefl _)]
      | succ k ih =>
        intro m i hi' hm'
        obtain ⟨m, rfl⟩ : ∃ m', m = m' + 1 := ⟨m - 1, by omega⟩
        show d_x8_lay_147 N (d_x8_lay_147L N m) _ h f n _ i = _
        unfold d_x8_lay_147
        rw [w32i (x := (i : Int)) (by omega) (by omega), w32i (x := (n : Int)) (by omega) (by omega), if_pos (by omega), w32i (x := 40 * (h : Int) + (f : Int) + (i : Int)) (by omega) (by omega), if_pos (by omega), w32i (x := 8 * (24 * (s : Int)) + (i : Int)) (by omega) (by omega), if_pos (by omega), bd_eq, bd_eq, show (40 * (h : Int) + (f : Int) + (i : Int)).toNat = h * 40 + f + i by omega, show (8 * (24 * (s : Int)) + (i : Int)).toNat = 8 * (24 * s) + i by omega, cp_ext (by decide)]
        exact ih m (i + 1) (by omega) (by omega)
    have LM0 := LM n N 0 (by omega) (by omega)
    rw [cp_0] at LM0
    have LM1 : d_x8_lay_147L N N r1 (h : Int) (f : Int) (n : Int) (24 * (s : Int)) 0 = _ := LM0
    rw [LM1]
    obtain ⟨c2, hc2⟩ : ∃ c2, c2 = cp c1 54 (h * 40 + f) 25 (8 * (24 * s)) n := ⟨_, rfl⟩
    obtain ⟨r2, hr2⟩ : ∃ r2, r2 = cp r1 129 (h * 40 + f) 85 (8 * (24 * s)) n := ⟨_, rfl⟩
    rw [← hc2, ← hr2]
    refine Two.vL (e_close1 (by omega) (by omega) (by rw [hc2, cp_ne (by omega)]; exact c19)) ?_
    have c3x : ∀ a k, a ≠ 18 → a ≠ 23 → a ≠ 25 → up (up c2 18 s 1) 23 (24 * s) 1 a k = c1 a k := fun a k x y z => by rw [up_ne y, up_ne x, hc2, cp_ne z]
    have r2x : ∀ a k, a ≠ 85 → r2 a k = r1 a k := fun a k x => by rw [hr2, cp_ne x]
    have hX : XT (tx (up (up c2 18 s 1) 23 (24 * s) 1) r2) := by
      have A := tx_ct (up (up c2 18 s 1) 23 (24 * s) 1) r2
      have B := tx_rt (up (up c2 18 s 1) 23 (24 * s) 1) r2
      refine H.2.1.1.lay (s := s) (n := n) (by omega) (by omega) ⟨?_, ?_, ?_, ?_, ?_, ?_, ?_, ?_, ?_, ?_⟩ (fun i hi' => ?_) (fun a ha hne => ⟨?_, ?_⟩) (fun a q ha hq hne => ?_) (fun a q i ha hq hne hi' => ?_)
      · rw [← A 18 s (by omega) (by omega), up_ne (by omega), up_same]
      · rw [← B 78 s (by omega) (by omega), r2x _ _ (by omega)]; exact r78
      · rw [← A 19 _ (by omega) (by omega), c3x _ _ (by omega) (by omega) (by omega)]; exact c19
      · rw [← B 79 _ (by omega) (by omega), r2x _ _ (by omega)]; exact r79
      · rw [← A 20 _ (by omega) (by omega), c3x _ _ (by omega) (by omega) (by omega)]; exact c20
      · rw [← B 80 _ (by omega) (by omega), r2x _ _ (by omega)]; exact r80
      · rw [← A 23 _ (by omega) (by omega), up_same]
      · rw [← B 81 _ (by omega) (by omega), r2x _ _ (by omega)]; exact r81
      · rw [← A 24 _ (by omega) (by omega), c3x _ _ (by omega) (by omega) (by omega)]; exact c24
      · rw [← B 84 _ (by omega) (by omega), r2x _ _ (by omega)]; exact r84
      · rw [← A 25 _ (by omega) (by omega), ← B 85 _ (by omega) (by omega), up_ne (by omega), up_ne (by omega), hc2, hr2, cp_app, if_pos (by omega), cp_app, if_pos (by omega), show 8 * (24 * s) + i - 8 * (24 * s) = i by omega, hc1x _ _ (by omega), hr1x _ _ (by omega) (by omega), show h * 40 + f + i = h * 40 + (f + i) by omega]
        exact (z7 (f + i) (by omega)).symm
      · rw [← A 18 _ (by omega) (by omega), ← tx_ct c r 18 _ (by omega) (by omega), up_ne (by omega), up_nj hne, hc2, cp_ne (by omega)]
        exact hc1x _ _ (by omega)
      · rw [← B 78 _ (by omega) (by omega), ← tx_rt c r 78 _ (by omega) (by omega), r2x _ _ (by omega)]
        exact hr1x _ _ (by omega) (by omega)
      · refine tx_pt (fun x => ?_) (fun x => ?_)
        · by_cases e23 : a = 23
          · subst e23
            rw [up_nj (by omega), up_ne (by omega), hc2, cp_ne (by omega)]
            exact hc1x _ _ (by omega)
          · rw [c3x _ _ (by omega) e23 (by omega)]
            exact hc1x _ _ (by omega)
        · rw [r2x _ _ (by omega)]
          exact hr1x _ _ (by omega) (by omega)
      · refine tx_pt (fun x => ?_) (fun x => ?_)
        · have : a = 25 := by omega
          subst this
          rw [up_ne (by omega), up_ne (by omega), hc2, cp_app, if_neg (by omega)]
          exact hc1x _ _ (by omega)
        · have : a = 85 := by omega
          subst this
          rw [hr2, cp_app, if_neg (by omega)]
          exact hr1x _ _ (by omega) (by omega)
    have ecx : ∀ a k, ¬ ((1 ≤ a ∧ a ≤ 14) ∨ (18 ≤ a ∧ a ≤ 25)) → up (up c2 18 s 1) 23 (24 * s) 1 a k = c a k := fun a k z => by rw [c3x a k (by omega) (by omega) (by omega)]; exact hc1x a k (by omega)
    have ec0 : ∀ a k, a < 18 → up (up c2 18 s 1) 23 (24 * s) 1 a k = c a k := fun a k z => by rw [c3x a k (by omega) (by omega) (by omega)]; exact hc1x a k (by omega)
    have erx : ∀ a k, ¬ (78 ≤ a ∧ a ≤ 85) → r2 a k = r a k := fun a k z => by rw [r2x a k (by omega)]; exact hr1x a k (by omega) (by omega)
    obtain ⟨c4, r4, w, w', u1, u2, q⟩ := S_unt hN (c1 := up (up c2 18 s 1) 23 (24 * s) 1) (r1 := r2) H ecx (fun a k z y => erx a k (by omega)) (fun k z => erx _ _ (by omega)) (H.1.cong (ec0 _ _ (by omega)) (fun k => ec0 _ _ (by omega)) (erx _ _ (by omega)) (fun k => erx _ _ (by omega))) hX
    refine Two.vL u1 ?_
    refine Two.vR u2 ?_
    exact Two.ret rfl (q _)
  refine Two.cL (e_miss c (by omega) h52) ?_
  refine Two.iR hg ?_
  rw [w32i (x := (h : Int)) (by omega) (by omega), Int.toNat_natCast, h126]
  by_cases hm : c 52 h = -1
  · rw [if_pos hm, if_pos hm]
    refine Two.eL (by decide) (Two.iR (by decide) ?_)
    exact key
  · rw [if_neg hm, if_neg hm]
    refine Two.iL (by decide) (Two.eR (by decide) ?_)
    refine Two.iL (by omega) (Two.iR (by omega) ?_)
    rcases hsh h (by omega) with z | ⟨z1, z2, z3, z4, z5, z6, z7⟩
    · exact absurd z.1 hm
    rw [z3, w32r h52, w32r h2]
    by_cases e : c 52 h = a2
    · exact Two.iL e (Two.iR e key)
    · exact Two.eL e (Two.eR e (Two.ret rfl (QG.refl H _)))
end
section
def Ex1 (A : Option Rs) (F : St → Option Rs) (P : St → Prop) : Prop := ∃ d, A = F d ∧ P d
theorem Ex1.i {p : Prop} [Decidable p] {A A' : Option Rs} {F : St → Option Rs} {P : St → Prop} (h : p) (k : Ex1 A F P) : Ex1 (if p then A else A') F P := by rw [if_pos h]; exact k
theorem Ex1.e {p : Prop} [Decidable p] {A A' : Option Rs} {F : St → Option Rs} {P : St → Prop} (h : ¬ p) (k : Ex1 A' F P) : Ex1 (if p then A else A') F P := by rw [if_neg h]; exact k
theorem Ex1.bd {α : Type} {x : α} {f : α → Option Rs} {F : St → Option Rs} {P : St → Prop} (k : Ex1 (f x) F P) : Ex1 (bd x f) F P := k
theorem e_im2 {N : Nat} (r : St) : ∀ (k m : Nat) (d : St) (p : Nat), p + k = 8 → k < m → (∀ q, q < p → d 111 q = r 78 q) → (∀ a k, (a ≠ 111) → d a k = r a k) → Ex1 (d_x8_image_2L N m d (p : Int)) (fun d' => d_x8_image_28L N N d' 0) (fun d' => (∀ q, q < 8 → d' 111 q = r 78 q) ∧ (∀ a k, (a ≠ 111) → d' a k = r a k)) := by
  intro k
  induction k with
  | zero =>
    intro m d p hp hm h1 h2
    obtain ⟨m, rfl⟩ : ∃ m', m = m' + 1 := ⟨m - 1, by omega⟩
    refine ⟨d, ?_, fun q hq => h1 q (by omega), h2⟩
    show d_x8_image_2 N (d_x8_image_2L N m) d p = _
    unfold d_x8_image_2
    rw [w32i (x := (p : Int)) (by omega) (by omega), if_neg (by omega)]
    try rfl
  | succ k ih =>
    intro m d p hp hm h1 h2
    obtain ⟨m, rfl⟩ : ∃ m', m = m' + 1 := ⟨m - 1, by omega⟩
    show Ex1 (d_x8_image_2 N (d_x8_image_2L N m) d p) _ _
    unfold d_x8_image_2
    (repeat (first | with_reducible refine Ex1.bd ?_ | (with_reducible refine Ex1.i ?_ ?_; · ((try simp (disch := omega) only [w32i, Int.toNat_natCast]) <;> omega)) | (with_reducible refine Ex1.e ?_ ?_; · ((try simp (disch := omega) only [w32i, Int.toNat_natCast]) <;> omega))))
    rw [w32i (x := (p : Int)) (by omega) (by omega), Int.toNat_natCast]
    refine ih m _ (p + 1) (by omega) (by omega) (fun q hq => ?_) (fun a k z => ?_)
    · by_cases e : q = p
      · subst e
        simp (disch := omega) only [up_ne, up_same]
        exact h2 _ _ (by omega)
      · simp (disch := omega) only [up_ne, up_nj]
        exact h1 q (by omega)
    · simp (disch := omega) only [up_ne]
      exact h2 a k z
theorem e_im28 {N : Nat} (r : St) : ∀ (k m : Nat) (d : St) (p : Nat), p + k = 192 → k < m → (∀ q, q < p → d 112 q = r 79 q ∧ d 113 q = r 80 q ∧ d 114 q = r 81 q ∧ d 115 q = r 82 q ∧ d 116 q = r 83 q ∧ d 117 q = r 84 q ∧ d 119 q = r 86 q ∧ d 120 q = r 87 q ∧ d 121 q = r 89 q ∧ d 122 q = r 90 q) → (∀ a k, (a ≠ 112 ∧ a ≠ 113 ∧ a ≠ 114 ∧ a ≠ 115 ∧ a ≠ 116 ∧ a ≠ 117 ∧ a ≠ 119 ∧ a ≠ 120 ∧ a ≠ 121 ∧ a ≠ 122) → d a k = r a k) → Ex1 (d_x8_image_28L N m d (p : Int)) (fun d' => d_x8_image_163L N N d' 0) (fun d' => (∀ q, q < 192 → d' 112 q = r 79 q ∧ d' 113 q = r 80 q ∧ d' 114 q = r 81 q ∧ d' 115 q = r 82 q ∧ d' 116 q = r 83 q ∧ d' 117 q = r 84 q ∧ d' 119 q = r 86 q ∧ d' 120 q = r 87 q ∧ d' 121 q = r 89 q ∧ d' 122 q = r 90 q) ∧ (∀ a k, (a ≠ 112 ∧ a ≠ 113 ∧ a ≠ 114 ∧ a ≠ 115 ∧ a ≠ 116 ∧ a ≠ 117 ∧ a ≠ 119 ∧ a ≠ 120 ∧ a ≠ 121 ∧ a ≠ 122) → d' a k = r a k)) := by
  intro k
  induction k with
  | zero =>
    intro m d p hp hm h1 h2
    obtain ⟨m, rfl⟩ : ∃ m', m = m' + 1 := ⟨m - 1, by omega⟩
    refine ⟨d, ?_, fun q hq => h1 q (by omega), h2⟩
    show d_x8_image_28 N (d_x8_image_28L N m) d p = _
    unfold d_x8_image_28
    rw [w32i (x := (p : Int)) (by omega) (by omega), if_neg (by omega)]
    try rfl
  | succ k ih =>
    intro m d p hp hm h1 h2
    obtain ⟨m, rfl⟩ : ∃ m', m = m' + 1 := ⟨m - 1, by omega⟩
    show Ex1 (d_x8_image_28 N (d_x8_image_28L N m) d p) _ _
    unfold d_x8_image_28
    (repeat (first | with_reducible refine Ex1.bd ?_ | (with_reducible refine Ex1.i ?_ ?_; · ((try simp (disch := omega) only [w32i, Int.toNat_natCast]) <;> omega)) | (with_reducible refine Ex1.e ?_ ?_; · ((try simp (disch := omega) only [w32i, Int.toNat_natCast]) <;> omega))))
    rw [w32i (x := (p : Int)) (by omega) (by omega), Int.toNat_natCast]
    refine ih m _ (p + 1) (by omega) (by omega) (fun q hq => ?_) (fun a k z => ?_)
    · by_cases e : q = p
      · subst e
        simp (disch := omega) only [up_ne, up_same]
        exact ⟨h2 _ _ (by omega), h2 _ _ (by omega), h2 _ _ (by omega), h2 _ _ (by omega), h2 _ _ (by omega), h2 _ _ (by omega), h2 _ _ (by omega), h2 _ _ (by omega), h2 _ _ (by omega), h2 _ _ (by omega)⟩
      · simp (disch := omega) only [up_ne, up_nj]
        exact h1 q (by omega)
    · simp (disch := omega) only [up_ne]
      exact h2 a k z
theorem e_im163 {N : Nat} (r : St) : ∀ (k m : Nat) (d : St) (p : Nat), p + k = 1536 → k < m → (∀ q, q < p → d 118 q = r 85 q) → (∀ a k, (a ≠ 118) → d a k = r a k) → Ex1 (d_x8_image_163L N m d (p : Int)) (fun d' => d_x8_image_190L N N d' 0) (fun d' => (∀ q, q < 1536 → d' 118 q = r 85 q) ∧ (∀ a k, (a ≠ 118) → d' a k = r a k)) := by
  intro k
  induction k with
  | zero =>
    intro m d p hp hm h1 h2
    obtain ⟨m, rfl⟩ : ∃ m', m = m' + 1 := ⟨m - 1, by omega⟩
    refine ⟨d, ?_, fun q hq => h1 q (by omega), h2⟩
    show d_x8_image_163 N (d_x8_image_163L N m) d p = _
    unfold d_x8_image_163
    rw [w32i (x := (p : Int)) (by omega) (by omega), if_neg (by omega)]
    try rfl
  | succ k ih =>
    intro m d p hp hm h1 h2
    obtain ⟨m, rfl⟩ : ∃ m', m = m' + 1 := ⟨m - 1, by omega⟩
    show Ex1 (d_x8_image_163 N (d_x8_image_163L N m) d p) _ _
    unfold d_x8_image_163
    (repeat (first | with_reducible refine Ex1.bd ?_ | (with_reducible refine Ex1.i ?_ ?_; · ((try simp (disch := omega) only [w32i, Int.toNat_natCast]) <;> omega)) | (with_reducible refine Ex1.e ?_ ?_; · ((try simp (disch := omega) only [w32i, Int.toNat_natCast]) <;> omega))))
    rw [w32i (x := (p : Int)) (by omega) (by omega), Int.toNat_natCast]
    refine ih m _ (p + 1) (by omega) (by omega) (fun q hq => ?_) (fun a k z => ?_)
    · by_cases e : q = p
      · subst e
        simp (disch := omega) only [up_ne, up_same]
        exact h2 _ _ (by omega)
      · simp (disch := omega) only [up_ne, up_nj]
        exact h1 q (by omega)
    · simp (disch := omega) only [up_ne]
      exact h2 a k z
theorem e_im190 {N : Nat} (r : St) : ∀ (k m : Nat) (d : St) (p : Nat), p + k = 12288 → k < m → (∀ q, q < p → d 123 q = r 91 q ∧ d 124 q = r 92 q ∧ d 125 q = r 93 q) → (∀ a k, (a ≠ 123 ∧ a ≠ 124 ∧ a ≠ 125) → d a k = r a k) → Ex1 (d_x8_image_190L N m d (p : Int)) (fun d' => (bI (d_x8_full N (up (up d' 77 63 (d' 77 9)) 77 64 1)) fun s3 v4 => some (s3, v4))) (fun d' => (∀ q, q < 12288 → d' 123 q = r 91 q ∧ d' 124 q = r 92 q ∧ d' 125 q = r 93 q) ∧ (∀ a k, (a ≠ 123 ∧ a ≠ 124 ∧ a ≠ 125) → d' a k = r a k)) := by
  intro k
  induction k with
  | zero =>
    intro m d p hp hm h1 h2
    obtain ⟨m, rfl⟩ : ∃ m', m = m' + 1 := ⟨m - 1, by omega⟩
    refine ⟨d, ?_, fun q hq => h1 q (by omega), h2⟩
    show d_x8_image_190 N (d_x8_image_190L N m) d p = _
    unfold d_x8_image_190
    rw [w32i (x := (p : Int)) (by omega) (by omega), if_neg (by omega)]
    try rfl
  | succ k ih =>
    intro m d p hp hm h1 h2
    obtain ⟨m, rfl⟩ : ∃ m', m = m' + 1 := ⟨m - 1, by omega⟩
    show Ex1 (d_x8_image_190 N (d_x8_image_190L N m) d p) _ _
    unfold d_x8_image_190
    (repeat (first | with_reducible refine Ex1.bd ?_ | (with_reducible refine Ex1.i ?_ ?_; · ((try simp (disch := omega) only [w32i, Int.toNat_natCast]) <;> omega)) | (with_reducible refine Ex1.e ?_ ?_; · ((try simp (disch := omega) only [w32i, Int.toNat_natCast]) <;> omega))))
    rw [w32i (x := (p : Int)) (by omega) (by omega), Int.toNat_natCast]
    refine ih m _ (p + 1) (by omega) (by omega) (fun q hq => ?_) (fun a k z => ?_)
    · by_cases e : q = p
      · subst e
        simp (disch := omega) only [up_ne, up_same]
        exact ⟨h2 _ _ (by omega), h2 _ _ (by omega), h2 _ _ (by omega)⟩
      · simp (disch := omega) only [up_ne, up_nj]
        exact h1 q (by omega)
    · simp (disch := omega) only [up_ne]
      exact h2 a k z
theorem e_bk12 {N : Nat} (r : St) : ∀ (k m : Nat) (d : St) (p : Nat), p + k = 8 → k < m → (∀ q, q < p → d 78 q = r 111 q) → (∀ a k, (a ≠ 78) → d a k = r a k) → Ex1 (d_x8_back_12L N m d (p : Int)) (fun d' => d_x8_back_38L N N d' 0) (fun d' => (∀ q, q < 8 → d' 78 q = r 111 q) ∧ (∀ a k, (a ≠ 78) → d' a k = r a k)) := by
  intro k
  induction k with
  | zero =>
    intro m d p hp hm h1 h2
    obtain ⟨m, rfl⟩ : ∃ m', m = m' + 1 := ⟨m - 1, by omega⟩
    refine ⟨d, ?_, fun q hq => h1 q (by omega), h2⟩
    show d_x8_back_12 N (d_x8_back_12L N m) d p = _
    unfold d_x8_back_12
    rw [w32i (x := (p : Int)) (by omega) (by omega), if_neg (by omega)]
    try rfl
  | succ k ih =>
    intro m d p hp hm h1 h2
    obtain ⟨m, rfl⟩ : ∃ m', m = m' + 1 := ⟨m - 1, by omega⟩
    show Ex1 (d_x8_back_12 N (d_x8_back_12L N m) d p) _ _
    unfold d_x8_back_12
    (repeat (first | with_reducible refine Ex1.bd ?_ | (with_reducible refine Ex1.i ?_ ?_; · ((try simp (disch := omega) only [w32i, Int.toNat_natCast]) <;> omega)) | (with_reducible refine Ex1.e ?_ ?_; · ((try simp (disch := omega) only [w32i, Int.toNat_natCast]) <;> omega))))
    rw [w32i (x := (p : Int)) (by omega) (by omega), Int.toNat_natCast]
    refine ih m _ (p + 1) (by omega) (by omega) (fun q hq => ?_) (fun a k z => ?_)
    · by_cases e : q = p
      · subst e
        simp (disch := omega) only [up_ne, up_same]
        exact h2 _ _ (by omega)
      · simp (disch := omega) only [up_ne, up_nj]
        exact h1 q (by omega)
    · simp (disch := omega) only [up_ne]
      exact h2 a k z
theorem e_bk38 {N : Nat} (r : St) : ∀ (k m : Nat) (d : St) (p : Nat), p + k = 192 → k < m → (∀ q, q < p → d 79 q = r 112 q ∧ d 80 q = r 113 q ∧ d 81 q = r 114 q ∧ d 82 q = r 115 q ∧ d 83 q = r 116 q ∧ d 84 q = r 117 q ∧ d 86 q = r 119 q ∧ d 87 q = r 120 q ∧ d 89 q = r 121 q ∧ d 90 q = r 122 q) → (∀ a k, (a ≠ 79 ∧ a ≠ 80 ∧ a ≠ 81 ∧ a ≠ 82 ∧ a ≠ 83 ∧ a ≠ 84 ∧ a ≠ 86 ∧ a ≠ 87 ∧ a ≠ 89 ∧ a ≠ 90) → d a k = r a k) → Ex1 (d_x8_back_38L N m d (p : Int)) (fun d' => d_x8_back_173L N N d' 0) (fun d' => (∀ q, q < 192 → d' 79 q = r 112 q ∧ d' 80 q = r 113 q ∧ d' 81 q = r 114 q ∧ d' 82 q = r 115 q ∧ d' 83 q = r 116 q ∧ d' 84 q = r 117 q ∧ d' 86 q = r 119 q ∧ d' 87 q = r 120 q ∧ d' 89 q = r 121 q ∧ d' 90 q = r 122 q) ∧ (∀ a k, (a ≠ 79 ∧ a ≠ 80 ∧ a ≠ 81 ∧ a ≠ 82 ∧ a ≠ 83 ∧ a ≠ 84 ∧ a ≠ 86 ∧ a ≠ 87 ∧ a ≠ 89 ∧ a ≠ 90) → d' a k = r a k)) := by
  intro k
  induction k with
  | zero =>
    intro m d p hp hm h1 h2
    obtain ⟨m, rfl⟩ : ∃ m', m = m' + 1 := ⟨m - 1, by omega⟩
    refine ⟨d, ?_, fun q hq => h1 q (by omega), h2⟩
    show d_x8_back_38 N (d_x8_back_38L N m) d p = _
    unfold d_x8_back_38
    rw [w32i (x := (p : Int)) (by omega) (by omega), if_neg (by omega)]
    try rfl
  | succ k ih =>
    intro m d p hp hm h1 h2
    obtain ⟨m, rfl⟩ : ∃ m', m = m' + 1 := ⟨m - 1, by omega⟩
    show Ex1 (d_x8_back_38 N (d_x8_back_38L N m) d p) _ _
    unfold d_x8_back_38
    (repeat (first | with_reducible refine Ex1.bd ?_ | (with_reducible refine Ex1.i ?_ ?_; · ((try simp (disch := omega) only [w32i, Int.toNat_natCast]) <;> omega)) | (with_reducible refine Ex1.e ?_ ?_; · ((try simp (disch := omega) only [w32i, Int.toNat_natCast]) <;> omega))))
    rw [w32i (x := (p : Int)) (by omega) (by omega), Int.toNat_natCast]
    refine ih m _ (p + 1) (by omega) (by omega) (fun q hq => ?_) (fun a k z => ?_)
    · by_cases e : q = p
      · subst e
        simp (disch := omega) only [up_ne, up_same]
        exact ⟨h2 _ _ (by omega), h2 _ _ (by omega), h2 _ _ (by omega), h2 _ _ (by omega), h2 _ _ (by omega), h2 _ _ (by omega), h2 _ _ (by omega), h2 _ _ (by omega), h2 _ _ (by omega), h2 _ _ (by omega)⟩
      · simp (disch := omega) only [up_ne, up_nj]
        exact h1 q (by omega)
    · simp (disch := omega) only [up_ne]
      exact h2 a k z
theorem e_bk173 {N : Nat} (r : St) : ∀ (k m : Nat) (d : St) (p : Nat), p + k = 1536 → k < m → (∀ q, q < p → d 85 q = r 118 q) → (∀ a k, (a ≠ 85) → d a k = r a k) → Ex1 (d_x8_back_173L N m d (p : Int)) (fun d' => d_x8_back_200L N N d' 0) (fun d' => (∀ q, q < 1536 → d' 85 q = r 118 q) ∧ (∀ a k, (a ≠ 85) → d' a k = r a k)) := by
  intro k
  induction k with
  | zero =>
    intro m d p hp hm h1 h2
    obtain ⟨m, rfl⟩ : ∃ m', m = m' + 1 := ⟨m - 1, by omega⟩
    refine ⟨d, ?_, fun q hq => h1 q (by omega), h2⟩
    show d_x8_back_173 N (d_x8_back_173L N m) d p = _
    unfold d_x8_back_173
    rw [w32i (x := (p : Int)) (by omega) (by omega), if_neg (by omega)]
    try rfl
  | succ k ih =>
    intro m d p hp hm h1 h2
    obtain ⟨m, rfl⟩ : ∃ m', m = m' + 1 := ⟨m - 1, by omega⟩
    show Ex1 (d_x8_back_173 N (d_x8_back_173L N m) d p) _ _
    unfold d_x8_back_173
    (repeat (first | with_reducible refine Ex1.bd ?_ | (with_reducible refine Ex1.i ?_ ?_; · ((try simp (disch := omega) only [w32i, Int.toNat_natCast]) <;> omega)) | (with_reducible refine Ex1.e ?_ ?_; · ((try simp (disch := omega) only [w32i, Int.toNat_natCast]) <;> omega))))
    rw [w32i (x := (p : Int)) (by omega) (by omega), Int.toNat_natCast]
    refine ih m _ (p + 1) (by omega) (by omega) (fun q hq => ?_) (fun a k z => ?_)
    · by_cases e : q = p
      · subst e
        simp (disch := omega) only [up_ne, up_same]
        exact h2 _ _ (by omega)
      · simp (disch := omega) only [up_ne, up_nj]
        exact h1 q (by omega)
    · simp (disch := omega) only [up_ne]
      exact h2 a k z
theorem e_bk200 {N : Nat} (r : St) : ∀ (k m : Nat) (d : St) (p : Nat), p + k = 12288 → k < m → (∀ q, q < p → d 91 q = r 123 q ∧ d 92 q = r 124 q ∧ d 93 q = r 125 q) → (∀ a k, (a ≠ 91 ∧ a ≠ 92 ∧ a ≠ 93) → d a k = r a k) → Ex1 (d_x8_back_200L N m d (p : Int)) (fun d' => (bI (d_x8_full N (up d' 77 9 (d' 77 63))) fun s2 v3 => some (s2, v3))) (fun d' => (∀ q, q < 12288 → d' 91 q = r 123 q ∧ d' 92 q = r 124 q ∧ d' 93 q = r 125 q) ∧ (∀ a k, (a ≠ 91 ∧ a ≠ 92 ∧ a ≠ 93) → d' a k = r a k)) := by
  intro k
  induction k with
  | zero =>
    intro m d p hp hm h1 h2
    obtain ⟨m, rfl⟩ : ∃ m', m = m' + 1 := ⟨m - 1, by omega⟩
    refine ⟨d, ?_, fun q hq => h1 q (by omega), h2⟩
    show d_x8_back_200 N (d_x8_back_200L N m) d p = _
    unfold d_x8_back_200
    rw [w32i (x := (p : Int)) (by omega) (by omega), if_neg (by omega)]
    try rfl
  | succ k ih =>
    intro m d p hp hm h1 h2
    obtain ⟨m, rfl⟩ : ∃ m', m = m' + 1 := ⟨m - 1, by omega⟩
    show Ex1 (d_x8_back_200 N (d_x8_back_200L N m) d p) _ _
    unfold d_x8_back_200
    (repeat (first | with_reducible refine Ex1.bd ?_ | (with_reducible refine Ex1.i ?_ ?_; · ((try simp (disch := omega) only [w32i, Int.toNat_natCast]) <;> omega)) | (with_reducible refine Ex1.e ?_ ?_; · ((try simp (disch := omega) only [w32i, Int.toNat_natCast]) <;> omega))))
    rw [w32i (x := (p : Int)) (by omega) (by omega), Int.toNat_natCast]
    refine ih m _ (p + 1) (by omega) (by omega) (fun q hq => ?_) (fun a k z => ?_)
    · by_cases e : q = p
      · subst e
        simp (disch := omega) only [up_ne, up_same]
        exact ⟨h2 _ _ (by omega), h2 _ _ (by omega), h2 _ _ (by omega)⟩
      · simp (disch := omega) only [up_ne, up_nj]
        exact h1 q (by omega)
    · simp (disch := omega) only [up_ne]
      exact h2 a k z
end
section
/-- texts alike on all that is there -/
def VA (T T' : St) : Prop := (∀ s, s < 8 → T' 18 s = T 18 s ∧ T' 78 s = T 78 s) ∧ (∀ p, VP T p → ∀ a, ((19 ≤ a ∧ a ≤ 24) ∨ (79 ≤ a ∧ a ≤ 84)) → T' a p = T a p) ∧ (∀ p, VP T p → ∀ i, i < 8 → T' 25 (8 * p + i) = T 25 (8 * p + i) ∧ T' 85 (8 * p + i) = T 85 (8 * p + i))
theorem VA.vp {T T' : St} (V : VA T T') {p : Nat} : VP T' p ↔ VP T p := by
  unfold VP
  constructor
  · rintro ⟨h1, h2⟩
    rw [(V.1 _ (by omega)).1] at h2
    exact ⟨h1, h2⟩
  · rintro ⟨h1, h2⟩
    refine ⟨h1, ?_⟩
    rw [(V.1 _ (by omega)).1]
    exact h2
theorem VA.rs {T T' : St} (V : VA T T') (W : WT T) : ∀ n p, VP T p → rs T' n p = rs T n p := by
  intro n
  induction n with
  | zero => intro p _; rfl
  | succ n ih =>
    intro p hp
    show (if T' 19 p = 0 then _ else _) = (if T 19 p = 0 then _ else _)
    rw [V.2.1 p hp 19 (by omega)]
    by_cases h : T 19 p = 0
    · have w := (W.2 p hp).2.2.1 h
      rw [if_pos h, if_pos h, V.2.1 p hp 21 (by omega), (V.1 _ (by omega)).1]
      by_cases h2 : T 18 (T 21 p).toNat = 0
      · rw [if_pos h2, if_pos h2]
      · rw [if_neg h2, if_neg h2]
        exact ih _ (VP.str W (by omega) h2)
    · rw [if_neg h, if_neg h]
theorem VA.wt {T T' : St} (V : VA T T') (W : WT T) : WT T' := by
  refine ⟨fun s hs => by rw [(V.1 s hs).1, (V.1 s hs).2]; exact W.1 s hs, fun p hp' => ?_⟩
  have hp := V.vp.mp hp'
  have w := W.2 p hp
  have ee := V.2.1 p hp
  obtain ⟨w1, w2, w3, w4, w5, w6, w7, w8, w9, w10, w11, w12, w13⟩ := w
  unfold WFp
  rw [ee 19 (by omega), ee 20 (by omega), ee 21 (by omega), ee 22 (by omega), ee 23 (by omega), ee 24 (by omega), ee 79 (by omega), ee 80 (by omega), ee 81 (by omega), ee 82 (by omega), ee 83 (by omega), ee 84 (by omega)]
  refine ⟨w1, w2, w3, w4, fun z => ⟨(w5 z).1, (w5 z).2.1, fun i hi => ?_⟩, w6, w7, w8, w9, w10, w11, fun z => ⟨V.vp.mpr (w12 z).1, (w12 z).2⟩, fun z => ?_⟩
  · have := (w5 z).2.1
    have e := V.2.2 p hp i (by omega)
    rw [e.1, e.2]
    exact (w5 z).2.2 i hi
  · rw [V.2.1 _ (w12 (by omega)).1 23 (by omega)]
    exact ⟨V.vp.mpr (w13 z).1, (w13 z).2⟩
theorem VA.xt {T T' : St} (V : VA T T') (X : XT T) : XT T' := by
  refine ⟨V.wt X.1, fun s hs => ?_⟩
  have x := X.1.1 s hs
  have hv : ∀ k : Nat, (k : Int) < T 18 s → VP T (24 * s + k) := fun k hk => ⟨by omega, by rw [(sk (by omega)).1, (sk (by omega)).2]; exact hk⟩
  rcases X.2 s hs with ⟨w1, w2⟩ | w
  · left
    rw [(V.1 s hs).1]
    refine ⟨?_, fun k hk h2 i hi => ?_⟩
    · rw [sm_congr (f := fun k => tk T' (24 * s + k)) (g := fun k => tk T (24 * s + k)) (T 18 s).toNat (fun k hk => ?_)]
      · exact w1
      · have v := hv k (by omega)
        unfold tk
        rw [V.2.1 _ v 19 (by omega), V.2.1 _ v 24 (by omega)]
    · have v := hv k hk
      rw [V.2.1 _ v 19 (by omega)] at h2
      rw [V.2.1 _ v 24 (by omega)] at hi
      have := (X.1.2 _ v).2.2.2.2.1 h2
      rw [(V.2.2 _ v i (by omega)).1]
      exact w2 k hk h2 i hi
  · right
    have v := hv 0 (by omega)
    rw [(V.1 s hs).1]
    have e := V.2.1 _ v 19 (by omega)
    rw [Nat.add_zero] at e
    rw [e]
    exact w
theorem VA.mt {t : Nat} {T T' c : St} (V : VA T T') (M : MT t T c) : MT t T' c := by
  refine ⟨M.1, M.2.1, M.2.2.1, M.2.2.2.1, fun p hp => ?_⟩
  rcases M.2.2.2.2 p hp with z | ⟨z1, z2, z3⟩
  · exact Or.inl z
  · exact Or.inr ⟨z1, V.vp.mpr z2, z3⟩
theorem VA.ts {t : Nat} {T T' c r : St} (V : VA T T') (W : WT T) (S : TS t T c r) : TS t T' c r := by
  have td : ∀ (q : Nat) (x : Int), VP T q → Td t T c q x → Td t T' c q x := by
    intro q x hq h
    obtain ⟨q', a1, a2, a3, a4⟩ := h
    refine ⟨q', ?_, a2, a3, a4⟩
    unfold res at *
    rw [V.rs W 9 q hq]
    exact a1
  refine ⟨S.1, S.2.1, fun p hp' => ?_, fun p i hp' hi => ?_, S.2.2.2.2.1, S.2.2.2.2.2⟩
  · have hp := V.vp.mp hp'
    have y := S.2.2.1 p hp
    unfold TN NX at *
    rw [V.2.1 p hp 19 (by omega)]
    exact y
  · have hp := V.vp.mp hp'
    have w := W.2 p hp
    have y := S.2.2.2.1 p i hp hi
    obtain ⟨y1, y2⟩ := y
    have e19 := V.2.1 p hp 19 (by omega)
    have e21 := V.2.1 p hp 21 (by omega)
    have e24 := V.2.1 p hp 24 (by omega)
    have v1 : 3 ≤ T 19 p → VP T (p + 1) := fun z => (w.2.2.2.2.2.2.2.2.2.2.2.1 z).1
    have v2 : T 19 p = 6 ∨ T 19 p = 7 → VP T (p + 1 + (T 23 (p + 1)).toNat) := fun z => (w.2.2.2.2.2.2.2.2.2.2.2.2 z).1
    have e23 : 3 ≤ T 19 p → T' 23 (p + 1) = T 23 (p + 1) := fun z => V.2.1 _ (v1 z) 23 (by omega)
    refine ⟨?_, ?_⟩
    · unfold KP at *
      rw [e19]
      exact y1
    · obtain ⟨a1, a2, a3, a4, a5, a6, a7, a8⟩ := y2
      unfold SO
      rw [e19, e21, e24]
      refine ⟨fun z => td _ _ (v1 (by omega)) (a1 z), fun z => ?_, fun z => td _ _ (v1 (by omega)) (a3 z), fun z y => td _ _ (v1 (by omega)) (a4 z y), fun z => td _ _ (v1 (by omega)) (a5 z), fun z => td _ _ (v1 (by omega)) (a6 z), fun z => ⟨fun y => td _ _ (v1 (by omega)) ((a7 z).1 y), fun y => ?_⟩, a8⟩
      · rw [e23 (by omega)]
        exact td _ _ (v2 (by omega)) (a2 z)
      · rw [e23 (by omega)]
        exact td _ _ (v2 (by omega)) ((a7 z).2 y)
/-- texts of t2 have come to t: stream s -/
theorem e_tkS {t t2 N : Nat} {c : St} (ht : t + 8 < t2 ∨ t2 + 8 < t) {s n : Nat} (hs : s < 8) (hn : c (t2 + 1) s = n) (h24 : n ≤ 24) : One (d_x5_takeStream N t 8 t2 8 c (s : Int) (s : Int)) (fun d _ => (∀ a k, ¬ (t + 1 ≤ a ∧ a ≤ t + 8) → d a k = c a k) ∧ d (t + 1) s = n ∧ (∀ k, k ≠ s → d (t + 1) k = c (t + 1) k) ∧ (∀ j q, 2 ≤ j → j ≤ 7 → d (t + j) q = if 24 * s ≤ q ∧ q < 24 * s + n then c (t2 + j) q else c (t + j) q) ∧ (∀ q, d (t + 8) q = if 8 * (24 * s) ≤ q ∧ q < 8 * (24 * s) + 8 * n then c (t2 + 8) q else c (t + 8) q)) := by
  unfold d_x5_takeStream
  have hg : 0 ≤ w32 (s : Int) ∧ w32 (s : Int) < ((8 : Nat) : Int) := (by ((try simp (disch := omega) only [w32i, Int.toNat_natCast]) <;> omega))
  refine One.i hg (One.i hg (One.bd (One.i hg ?_)))
  rw [w32i (x := (s : Int)) (by omega) (by omega), Int.toNat_natCast, hn, up_same]
  unfold d_x5_takeParts
  have g : 0 ≤ w32 (n : Int) ∧ 0 ≤ w32 ((s : Int) * 24) ∧ 0 ≤ w32 ((s : Int) * 24) ∧ w32 ((s : Int) * 24) + w32 (n : Int) ≤ ((8 * 24 : Nat) : Int) ∧ w32 ((s : Int) * 24) + w32 (n : Int) ≤ ((8 * 24 : Nat) : Int) := (by ((try simp (disch := omega) only [w32i, Int.toNat_natCast]) <;> omega))
  have g8 : 0 ≤ w32 ((n : Int) * 8) ∧ 0 ≤ w32 ((s : Int) * 24 * 8) ∧ 0 ≤ w32 ((s : Int) * 24 * 8) ∧ w32 ((s : Int) * 24 * 8) + w32 ((n : Int) * 8) ≤ ((8 * 192 : Nat) : Int) ∧ w32 ((s : Int) * 24 * 8) + w32 ((n : Int) * 8) ≤ ((8 * 192 : Nat) : Int) := (by ((try simp (disch := omega) only [w32i, Int.toNat_natCast]) <;> omega))
  simp only [if_pos g, if_pos g8, bd_eq]
  rw [w32i (x := (n : Int)) (by omega) (by omega), w32i (x := (s : Int) * 24) (by omega) (by omega), w32i (x := (n : Int) * 8) (by omega) (by omega), w32i (x := (s : Int) * 24 * 8) (by omega) (by omega), Int.toNat_natCast, show ((s : Int) * 24).toNat = 24 * s by omega, show ((n : Int) * 8).toNat = 8 * n by omega, show ((s : Int) * 24 * 8).toNat = 8 * (24 * s) by omega]
  refine One.v rfl (One.ret ⟨fun a k z => ?_, ?_, fun k hk => ?_, fun j q h1 h2 => ?_, fun q => ?_⟩)
  · simp (disch := omega) only [cp_ne, up_ne]
  · simp (disch := omega) only [cp_ne, up_same]
  · simp (disch := omega) only [cp_ne, up_nj]
  · have : j = 2 ∨ j = 3 ∨ j = 4 ∨ j = 5 ∨ j = 6 ∨ j = 7 := by omega
    by_cases e : 24 * s ≤ q ∧ q < 24 * s + n
    · obtain ⟨x, rfl⟩ : ∃ x, q = 24 * s + x := ⟨q - 24 * s, by omega⟩
      have hx : x < n := by omega
      rw [if_pos e]
      rcases this with rfl | rfl | rfl | rfl | rfl | rfl <;> simp (disch := omega) only [cp_ne, cp_at, up_ne]
    · rw [if_neg e]
      rcases this with rfl | rfl | rfl | rfl | rfl | rfl <;> simp (disch := omega) only [cp_ne, cp_o, up_ne]
  · by_cases e : 8 * (24 * s) ≤ q ∧ q < 8 * (24 * s) + 8 * n
    · obtain ⟨x, rfl⟩ : ∃ x, q = 8 * (24 * s) + x := ⟨q - 8 * (24 * s), by omega⟩
      rw [if_pos e, cp_at (by omega)]
      simp (disch := omega) only [cp_ne, up_ne]
    · rw [if_neg e, cp_o (by omega)]
      simp (disch := omega) only [cp_ne, up_ne]
theorem e_tkL {t t2 N : Nat} {c : St} (ht : t + 8 < t2 ∨ t2 + 8 < t) (h24 : ∀ s : Nat, s < 8 → 0 ≤ c (t2 + 1) s ∧ c (t2 + 1) s ≤ 24) : ∀ (k m : Nat) (d : St) (j : Nat), j + k = 8 → k < m → (∀ a k, ¬ (t + 1 ≤ a ∧ a ≤ t + 8) → d a k = c a k) → (∀ s, s < j → d (t + 1) s = c (t2 + 1) s ∧ (∀ x : Nat, (x : Int) < c (t2 + 1) s → (∀ i, 2 ≤ i → i ≤ 7 → d (t + i) (24 * s + x) = c (t2 + i) (24 * s + x)) ∧ ∀ i, i < 8 → d (t + 8) (8 * (24 * s + x) + i) = c (t2 + 8) (8 * (24 * s + x) + i))) →
    One (d_x5_takeAll_2L N t 8 t2 8 m d (j : Int)) (fun d' _ => (∀ a k, ¬ (t + 1 ≤ a ∧ a ≤ t + 8) → d' a k = c a k) ∧ ∀ s, s < 8 → d' (t + 1) s = c (t2 + 1) s ∧ (∀ x : Nat, (x : Int) < c (t2 + 1) s → (∀ i, 2 ≤ i → i ≤ 7 → d' (t + i) (24 * s + x) = c (t2 + i) (24 * s + x)) ∧ ∀ i, i < 8 → d' (t + 8) (8 * (24 * s + x) + i) = c (t2 + 8) (8 * (24 * s + x) + i))) := by
  intro k
  induction k with
  | zero =>
    intro m d j hj hm h1 h2
    obtain ⟨m, rfl⟩ : ∃ m', m = m' + 1 := ⟨m - 1, by omega⟩
    show One (d_x5_takeAll_2 N t 8 t2 8 (d_x5_takeAll_2L N t 8 t2 8 m) d j) _
    unfold d_x5_takeAll_2
    (repeat (first | with_reducible refine One.bd ?_ | (with_reducible refine One.i ?_ ?_; · ((try simp (disch := omega) only [w32i, Int.toNat_natCast]) <;> omega)) | (with_reducible refine One.e ?_ ?_; · ((try simp (disch := omega) only [w32i, Int.toNat_natCast]) <;> omega))))
    exact One.ret ⟨h1, fun s hs => h2 s (by omega)⟩
  | succ k ih =>
    intro m d j hj hm h1 h2
    obtain ⟨m, rfl⟩ : ∃ m', m = m' + 1 := ⟨m - 1, by omega⟩
    show One (d_x5_takeAll_2 N t 8 t2 8 (d_x5_takeAll_2L N t 8 t2 8 m) d j) _
    unfold d_x5_takeAll_2
    have hh := h24 j (by omega)
    obtain ⟨n, hn⟩ : ∃ n : Nat, c (t2 + 1) j = n := ⟨(c (t2 + 1) j).toNat, by omega⟩
    (repeat (first | with_reducible refine One.bd ?_ | (with_reducible refine One.i ?_ ?_; · ((try simp (disch := omega) only [w32i, Int.toNat_natCast]) <;> omega)) | (with_reducible refine One.e ?_ ?_; · ((try simp (disch := omega) only [w32i, Int.toNat_natCast]) <;> omega))))
    refine One.callV (e_tkS ht (s := j) (n := n) (by omega) (by rw [h1 _ _ (by omega)]; exact hn) (by omega)) (fun d' v q => ?_)
    obtain ⟨q1, q2, q3, q4, q5⟩ := q
    refine One.bd ?_
    refine ih m d' (j + 1) (by omega) (by omega) (fun a k z => (q1 a k z).trans (h1 a k z)) (fun s hs => ?_)
    by_cases e : s = j
    · subst e
      refine ⟨by rw [q2, hn], fun x hx => ⟨fun i i1 i2 => ?_, fun i hi => ?_⟩⟩
      · rw [q4 i _ i1 i2, if_pos (by omega)]
        exact h1 _ _ (by omega)
      · rw [q5, if_pos (by omega)]
        exact h1 _ _ (by omega)
    · have o := h2 s (by omega)
      refine ⟨by rw [q3 s e]; exact o.1, fun x hx => ⟨fun i i1 i2 => ?_, fun i hi => ?_⟩⟩
      · have hs' := h24 s (by omega)
        rw [q4 i _ i1 i2, if_neg (by omega)]
        exact (o.2 x hx).1 i i1 i2
      · have hs' := h24 s (by omega)
        rw [q5, if_neg (by omega)]
        exact (o.2 x hx).2 i hi
theorem e_tkA {t t2 N : Nat} (hN : 100 ≤ N) {c : St} (ht : t + 8 < t2 ∨ t2 + 8 < t) (h24 : ∀ s : Nat, s < 8 → 0 ≤ c (t2 + 1) s ∧ c (t2 + 1) s ≤ 24) : One (d_x5_takeAll N t 8 t2 8 c) (fun d' _ => (∀ a k, ¬ (t + 1 ≤ a ∧ a ≤ t + 8) → d' a k = c a k) ∧ ∀ s, s < 8 → d' (t + 1) s = c (t2 + 1) s ∧ (∀ x : Nat, (x : Int) < c (t2 + 1) s → (∀ i, 2 ≤ i → i ≤ 7 → d' (t + i) (24 * s + x) = c (t2 + i) (24 * s + x)) ∧ ∀ i, i < 8 → d' (t + 8) (8 * (24 * s + x) + i) = c (t2 + 8) (8 * (24 * s + x) + i))) := by
  unfold d_x5_takeAll
  exact e_tkL ht h24 8 N c 0 (by omega) (by omega) (fun _ _ _ => rfl) (fun s hs => by omega)
end
