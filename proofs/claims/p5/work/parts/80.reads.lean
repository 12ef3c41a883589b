theorem e_fill {N : Nat} (hN : 200 ≤ N) {c : St} (h18 : ∀ s : Nat, s < 8 → 0 ≤ c 18 s ∧ c 18 s ≤ 24) : d_x5_filledStreams N 17 8 c = some (c, sm (fun s => if 0 < c 18 s then 1 else 0) 8) := by
  have loop : ∀ (k m j : Nat), j + k = 8 → k < m → d_x5_filledStreams_4L N 17 8 m c (sm (fun s => if 0 < c 18 s then 1 else 0) j) (j : Int) = some (c, sm (fun s => if 0 < c 18 s then 1 else 0) 8) := by
    intro k
    induction k with
    | zero =>
      intro m j hj hm
      obtain ⟨m, rfl⟩ : ∃ m', m = m' + 1 := ⟨m - 1, by omega⟩
      have : j = 8 := by omega
      subst this
      show d_x5_filledStreams_4 N 17 8 (d_x5_filledStreams_4L N 17 8 m) c _ _ = _
      unfold d_x5_filledStreams_4
      rw [if_neg (by decide)]
    | succ k ih =>
      intro m j hj hm
      obtain ⟨m, rfl⟩ : ∃ m', m = m' + 1 := ⟨m - 1, by omega⟩
      have h := h18 j (by omega)
      show d_x5_filledStreams_4 N 17 8 (d_x5_filledStreams_4L N 17 8 m) c _ _ = _
      unfold d_x5_filledStreams_4 d_x5_filledStreams_25
      have i : d_x5_filledStreams_4L N 17 8 m c (sm (fun s => if 0 < c 18 s then 1 else 0) j + (if 0 < c 18 j then 1 else 0)) ((j : Int) + 1) = _ := ih m (j + 1) (by omega) (by omega)
      rw [w32i (x := (j : Int)) (by omega) (by omega), w32i (x := ((8 : Nat) : Int)) (by omega) (by omega), if_pos (by omega), if_pos (by omega), Int.toNat_natCast, show (17 : Nat) + 1 = 18 from rfl, w32i (x := c 18 j) (by omega) (by omega), bd_eq, bd_eq, bd_eq]
      by_cases e : 0 < c 18 j
      · rw [if_pos e] at i ⊢
        exact i
      · rw [if_neg e] at i ⊢
        rw [Int.add_zero] at i
        exact i
  unfold d_x5_filledStreams
  exact loop 8 N 0 (by omega) (by omega)
theorem e_full {N : Nat} (hN : 200 ≤ N) {r : St} (h18 : ∀ s : Nat, s < 8 → 0 ≤ r 78 s ∧ r 78 s ≤ 24) : d_x8_full N r = some (r, sm (fun s => if 0 < r 78 s then 1 else 0) 8) := by
  have loop : ∀ (k m j : Nat), j + k = 8 → k < m → d_x8_full_4L N m r (sm (fun s => if 0 < r 78 s then 1 else 0) j) (j : Int) = some (r, sm (fun s => if 0 < r 78 s then 1 else 0) 8) := by
    intro k
    induction k with
    | zero =>
      intro m j hj hm
      obtain ⟨m, rfl⟩ : ∃ m', m = m' + 1 := ⟨m - 1, by omega⟩
      have : j = 8 := by omega
      subst this
      show d_x8_full_4 N (d_x8_full_4L N m) r _ _ = _
      unfold d_x8_full_4
      rw [if_neg (by decide)]
    | succ k ih =>
      intro m j hj hm
      obtain ⟨m, rfl⟩ : ∃ m', m = m' + 1 := ⟨m - 1, by omega⟩
      have h := h18 j (by omega)
      show d_x8_full_4 N (d_x8_full_4L N m) r _ _ = _
      unfold d_x8_full_4 d_x8_full_25
      have i : d_x8_full_4L N m r (sm (fun s => if 0 < r 78 s then 1 else 0) j + (if 0 < r 78 j then 1 else 0)) ((j : Int) + 1) = _ := ih m (j + 1) (by omega) (by omega)
      rw [w32i (x := (j : Int)) (by omega) (by omega), if_pos (by omega), if_pos (by omega), Int.toNat_natCast, w32i (x := r 78 j) (by omega) (by omega), bd_eq, bd_eq, bd_eq, bd_eq]
      by_cases e : 0 < r 78 j
      · rw [if_pos e] at i ⊢
        exact i
      · rw [if_neg e] at i ⊢
        exact i
  unfold d_x8_full
  exact loop 8 N 0 (by omega) (by omega)
theorem fills {N : Nat} (hN : 200 ≤ N) {c r : St} (h18 : ∀ s : Nat, s < 8 → (0 ≤ c 18 s ∧ c 18 s ≤ 24) ∧ r 78 s = c 18 s) : ∃ v, d_x5_filledStreams N 17 8 c = some (c, v) ∧ d_x8_full N r = some (r, v) := by
  refine ⟨_, e_fill hN (fun s hs => (h18 s hs).1), ?_⟩
  rw [e_full hN (fun s hs => by have := h18 s hs; omega), sm_congr (f := fun s => if 0 < r 78 s then 1 else 0) (g := fun s => if 0 < c 18 s then 1 else 0) 8 (fun i hi => by rw [(h18 i hi).2])]
theorem e_allPt {N : Nat} (hN : 200 ≤ N) {c : St} (h18 : ∀ s : Nat, s < 8 → 0 ≤ c 18 s ∧ c 18 s ≤ 24) : d_x5_allParts N 17 8 c = some (c, sm (fun s => c 18 s) 8) := by
  have loop : ∀ (k m j : Nat), j + k = 8 → k < m → d_x5_allParts_4L N 17 8 m c (sm (fun s => c 18 s) j) (j : Int) = some (c, sm (fun s => c 18 s) 8) := by
    intro k
    induction k with
    | zero =>
      intro m j hj hm
      obtain ⟨m, rfl⟩ : ∃ m', m = m' + 1 := ⟨m - 1, by omega⟩
      have : j = 8 := by omega
      subst this
      show d_x5_allParts_4 N 17 8 (d_x5_allParts_4L N 17 8 m) c _ _ = _
      unfold d_x5_allParts_4
      rw [if_neg (by decide)]
    | succ k ih =>
      intro m j hj hm
      obtain ⟨m, rfl⟩ : ∃ m', m = m' + 1 := ⟨m - 1, by omega⟩
      have h := h18 j (by omega)
      show d_x5_allParts_4 N 17 8 (d_x5_allParts_4L N 17 8 m) c _ _ = _
      unfold d_x5_allParts_4
      have i : d_x5_allParts_4L N 17 8 m c (sm (fun s => c 18 s) j + c 18 j) ((j : Int) + 1) = _ := ih m (j + 1) (by omega) (by omega)
      rw [w32i (x := (j : Int)) (by omega) (by omega), w32i (x := ((8 : Nat) : Int)) (by omega) (by omega), if_pos (by omega), if_pos (by omega), Int.toNat_natCast, bd_eq, bd_eq]
      exact i
  unfold d_x5_allParts
  exact loop 8 N 0 (by omega) (by omega)
/-- count() -/
theorem r_count {N : Nat} (hN : 200 ≤ N) {c r : St} {a0 : Int} (h0 : r32 a0) (H : RG c r) : Two (d_x7_count N c a0) (d_x8_count N r a0) (QG c r) := by
  have hp := H.p18
  unfold d_x7_count d_x8_count
  rw [w32r h0]
  by_cases hi : 0 ≤ a0 ∧ a0 ≤ 6
  · rw [e_in32 N r h0 (by unfold r32; omega) (by unfold r32; omega), if_pos hi]
    refine Two.cR rfl (Two.eR (by decide) ?_)
    have m37 : ∀ (k m j : Nat), j + k = 8 → k < m → d_x8_count_37L N m r a0 (sm (fun s => r 78 s) j) (j : Int) = (if a0 = 0 then bI (d_x8_full N r) fun s1 v2 => some (s1, v2) else (if a0 = 1 then some (r, sm (fun s => r 78 s) 8) else (if a0 = 4 then some (r, r 77 39) else (if a0 = 5 then some (r, r 77 19) else some (r, r 77 9))))) := by
      intro k
      induction k with
      | zero =>
        intro m j hj hm
        obtain ⟨m, rfl⟩ : ∃ m', m = m' + 1 := ⟨m - 1, by omega⟩
        have : j = 8 := by omega
        subst this
        show d_x8_count_37 N (d_x8_count_37L N m) r a0 _ _ = _
        unfold d_x8_count_37
        rw [if_neg (by decide), w32r h0]
      | succ k ih =>
        intro m j hj hm
        obtain ⟨m, rfl⟩ : ∃ m', m = m' + 1 := ⟨m - 1, by omega⟩
        have h := hp j (by omega)
        show d_x8_count_37 N (d_x8_count_37L N m) r a0 _ _ = _
        unfold d_x8_count_37
        have i : d_x8_count_37L N m r a0 (sm (fun s => r 78 s) j + r 78 j) ((j : Int) + 1) = _ := ih m (j + 1) (by omega) (by omega)
        rw [w32i (x := (j : Int)) (by omega) (by omega), if_pos (by omega), if_pos (by omega), Int.toNat_natCast, bd_eq, bd_eq]
        exact i
    have m37' : d_x8_count_37L N N r a0 0 0 = _ := m37 8 N 0 (by omega) (by omega)
    have hl := H.2.2.2.2.2.1
    have hr := H.2.2.2.2.2.2
    have ht := H.1
    unfold RLi at hl
    unfold RR at hr
    unfold RT at ht
    have : a0 = 0 ∨ a0 = 1 ∨ a0 = 2 ∨ a0 = 3 ∨ a0 = 4 ∨ a0 = 5 ∨ a0 = 6 := by omega
    rcases this with e | e | e | e | e | e | e <;> subst e
    · obtain ⟨v, f1, f2⟩ := fills hN hp
      refine Two.iL rfl (Two.cL f1 ?_)
      refine Two.eR (by decide) (Two.eR (by decide) ?_)
      rw [m37']
      refine Two.iR rfl (Two.cR f2 ?_)
      exact Two.ret rfl (QG.refl H _)
    · refine Two.eL (by decide) (Two.iL rfl (Two.cL (e_allPt hN (fun s hs => (hp s hs).1)) ?_))
      refine Two.eR (by decide) (Two.eR (by decide) ?_)
      rw [m37']
      refine Two.eR (by decide) (Two.iR rfl ?_)
      exact Two.ret (sm_congr 8 (fun i hi => (hp i hi).2)) (QG.refl H _)
    · refine Two.eL (by decide) (Two.eL (by decide) (Two.iL rfl (Two.cL (e_allP hN H.2.1.2.2.1) ?_)))
      refine Two.iR rfl ?_
      unfold d_x8_count_25
      refine Two.cR (tA0 hN H) ?_
      exact Two.ret rfl (QG.refl H _)
    · refine Two.eL (by decide) (Two.eL (by decide) (Two.eL (by decide) (Two.iL rfl (Two.cL (e_allH hN H.2.1.2.2.1) ?_))))
      refine Two.eR (by decide) (Two.iR rfl ?_)
      unfold d_x8_count_25
      refine Two.cR (tA1 hN H) ?_
      exact Two.ret rfl (QG.refl H _)
    · refine Two.eL (by decide) (Two.eL (by decide) (Two.eL (by decide) (Two.eL (by decide) (Two.iL rfl ?_))))
      refine Two.eR (by decide) (Two.eR (by decide) ?_)
      rw [m37']
      refine Two.eR (by decide) (Two.eR (by decide) (Two.iR rfl ?_))
      exact Two.ret hr.1 (QG.refl H _)
    · refine Two.eL (by decide) (Two.eL (by decide) (Two.eL (by decide) (Two.eL (by decide) (Two.eL (by decide) (Two.iL rfl ?_)))))
      refine Two.eR (by decide) (Two.eR (by decide) ?_)
      rw [m37']
      refine Two.eR (by decide) (Two.eR (by decide) (Two.eR (by decide) (Two.iR rfl ?_)))
      exact Two.ret ht.1 (QG.refl H _)
    · refine Two.eL (by decide) (Two.eL (by decide) (Two.eL (by decide) (Two.eL (by decide) (Two.eL (by decide) (Two.eL (by decide) (Two.iL rfl ?_))))))
      refine Two.eR (by decide) (Two.eR (by decide) ?_)
      rw [m37']
      refine Two.eR (by decide) (Two.eR (by decide) (Two.eR (by decide) (Two.eR (by decide) ?_)))
      exact Two.ret hl.1 (QG.refl H _)
  · rw [e_in32 N r h0 (by unfold r32; omega) (by unfold r32; omega), if_neg hi]
    refine Two.cR rfl (Two.iR (by decide) ?_)
    (repeat (first | with_reducible refine Two.bdL ?_ | (with_reducible refine Two.iL ?_ ?_; · ((try simp (disch := omega) only [w32i, Int.toNat_natCast]) <;> omega)) | (with_reducible refine Two.eL ?_ ?_; · ((try simp (disch := omega) only [w32i, Int.toNat_natCast]) <;> omega))))
    exact Two.ret rfl (QG.refl H _)
/-- what part(), taken() have alike -/
theorem P_part {N : Nat} {c r : St} {a0 a1 a2 b : Int} (h0 : r32 a0) (h1 : r32 a1) (h2 : r32 a2) (hb : 0 ≤ b ∧ b ≤ 10) (H : RG c r) {K : St → Option Rs} {L : St → Option Rs} (hK : ∀ s k : Nat, s < 8 → k < 24 → a0 = s → a1 = k → (k : Int) < c 18 s → 0 ≤ a2 ∧ a2 ≤ b → Two (K c) (L r) (QG c r)) :
    Two (bI (d_x7_isStream N c a0) fun s1 v2 => (if (w32 v2) = 0 then some (s1, (-2)) else (if (w32 a2) < 0 then some (s1, (-2)) else (if b < (w32 a2) then some (s1, (-2)) else bI (d_x7_isEmpty N  s1 a0) fun s3 v4 => (if (w32 v4) = 0 then bI (d_x7_hasPart N  s3 a0 a1) fun s5 v6 => (if (w32 v6) = 0 then some (s5, (-12)) else K s5) else some (s3, (-3)))))))
      (bI (d_x8_isStream N r a0) fun s1 v2 => (if (w32 v2) = 0 then some (s1, (-2)) else bI (d_x8_in N  s1 (w32 a2) 0 b) fun s3 v4 => (if (w32 v4) = 0 then some (s3, (-2)) else if 0 ≤ (w32 a0) ∧ (w32 a0) < ((8 : Nat) : Int) then (if (w32 (s3 78 (Int.toNat (w32 a0)))) = 0 then some (s3, (-3)) else bI (d_x8_isPart N  s3 a0 a1) fun s5 v6 => (if (w32 v6) = 0 then some (s5, (-12)) else L s5)) else none))) (QG c r) := by
  by_cases hs : 0 ≤ a0 ∧ a0 < 8
  · refine Two.cL (S7t h0 hs) (Two.eL (by decide) ?_)
    refine Two.cR (S8t h0 hs) (Two.eR (by decide) ?_)
    by_cases hi : 0 ≤ a2 ∧ a2 ≤ b
    · refine Two.cR (int h2 (by unfold r32; omega) (by unfold r32; omega) hi) (Two.eR (by decide) ?_)
      refine Two.eL (by rw [w32r h2]; omega) (Two.eL (by rw [w32r h2]; omega) ?_)
      obtain ⟨s, rfl⟩ : ∃ s : Nat, a0 = s := ⟨a0.toNat, by omega⟩
      have hps := H.p18 s (by omega)
      refine Two.cL (Em (by omega) hps.1) ?_
      refine Two.iR (by ((try simp (disch := omega) only [w32i, Int.toNat_natCast]) <;> omega)) ?_
      rw [w32i (x := (s : Int)) (by omega) (by omega), Int.toNat_natCast, hps.2, w32i (x := c 18 s) (by omega) (by omega)]
      by_cases he : c 18 s = 0
      · rw [if_pos he]
        refine Two.eL (by decide) (Two.iR he ?_)
        exact Two.ret rfl (QG.refl H _)
      · rw [if_neg he]
        refine Two.iL (by decide) (Two.eR he ?_)
        refine Two.cL (e_hasP (by omega) h1 hps.1) ?_
        refine Two.cR (e_isP (by omega) h1 (by omega)) ?_
        rw [hps.2]
        by_cases hkp : 0 ≤ a1 ∧ a1 < c 18 s
        · rw [if_pos hkp]
          refine Two.eL (by decide) (Two.eR (by decide) ?_)
          exact hK s a1.toNat (by omega) (by omega) rfl (by omega) (by omega) hi
        · rw [if_neg hkp]
          refine Two.iL (by decide) (Two.iR (by decide) ?_)
          exact Two.ret rfl (QG.refl H _)
    · refine Two.cR (inf h2 (by unfold r32; omega) (by unfold r32; omega) hi) (Two.iR (by decide) ?_)
      by_cases hn : a2 < 0
      · refine Two.iL (by rw [w32r h2]; exact hn) ?_
        exact Two.ret rfl (QG.refl H _)
      · refine Two.eL (by rw [w32r h2]; exact hn) (Two.iL (by rw [w32r h2]; omega) ?_)
        exact Two.ret rfl (QG.refl H _)
  · refine Two.cL (S7f h0 hs) (Two.iL (by decide) ?_)
    refine Two.cR (S8f h0 hs) (Two.iR (by decide) ?_)
    exact Two.ret rfl (QG.refl H _)
/-- part() -/
theorem r_part {N : Nat} (hN : 200 ≤ N) {c r : St} {a0 a1 a2 : Int} (h0 : r32 a0) (h1 : r32 a1) (h2 : r32 a2) (H : RG c r) : Two (d_x7_part N c a0 a1 a2) (d_x8_part N r a0 a1 a2) (QG c r) := by
  unfold d_x7_part d_x8_part
  refine P_part h0 h1 h2 (by decide) H (fun s k hs hk e0 e1 hkp hi => ?_)
  subst e0 e1
  have hd : (24 * s + k) % 24 = k ∧ (24 * s + k) / 24 = s := sk hk
  have hvv : (((24 * s + k) % 24 : Nat) : Int) < c 18 ((24 * s + k) / 24) := by rw [hd.1, hd.2]; exact hkp
  have kd := H.kd (p := 24 * s + k) (by omega) hvv
  have f1 : ((s : Int) * 24 + (k : Int)) = ((24 * s + k : Nat) : Int) := by omega
  have f2 : (24 * (s : Int) + (k : Int)) = ((24 * s + k : Nat) : Int) := by omega
  refine Two.bdL (Two.bdR ?_)
  rw [f1, f2]
  have hp : 24 * s + k < 192 := by omega
  generalize 24 * s + k = p at *
  have hP := H.2.1.2.1.1 p hp
  unfold TP at hP
  have hg : 0 ≤ w32 (p : Int) ∧ w32 (p : Int) < ((192 : Nat) : Int) := (by ((try simp (disch := omega) only [w32i, Int.toNat_natCast]) <;> omega))
  have hH := H.hd hp
  rw [w32r h2]
  have : a2 = 0 ∨ a2 = 1 ∨ a2 = 2 ∨ a2 = 3 ∨ a2 = 4 ∨ a2 = 5 := by omega
  rcases this with e | e | e | e | e | e <;> subst e
  · refine Two.iL rfl (Two.iL hg ?_)
    refine Two.iR (by decide) (Two.iR rfl (Two.iR hg ?_))
    rw [w32i (x := (p : Int)) (by omega) (by omega), Int.toNat_natCast]
    exact Two.ret kd.1 (QG.refl H _)
  · refine Two.eL (by decide) (Two.iL rfl (Two.iL hg ?_))
    refine Two.iR (by decide) (Two.eR (by decide) (Two.iR rfl (Two.iR hg ?_)))
    rw [w32i (x := (p : Int)) (by omega) (by omega), Int.toNat_natCast]
    exact Two.ret kd.2.2.1 (QG.refl H _)
  · refine Two.eL (by decide) (Two.eL (by decide) (Two.iL rfl (Two.iL hg ?_)))
    refine Two.iR (by decide) (Two.eR (by decide) (Two.eR (by decide) (Two.iR hg ?_)))
    rw [w32i (x := (p : Int)) (by omega) (by omega), Int.toNat_natCast]
    exact Two.ret hP.1 (QG.refl H _)
  · refine Two.eL (by decide) (Two.eL (by decide) (Two.eL (by decide) (Two.iL rfl (Two.iL hg ?_))))
    refine Two.eR (by decide) (Two.iR rfl ?_)
    refine Two.cR (e_tH hN hp hH.1) ?_
    rw [w32i (x := (p : Int)) (by omega) (by omega), Int.toNat_natCast]
    exact Two.ret hH.2.symm (QG.refl H _)
  · refine Two.eL (by decide) (Two.eL (by decide) (Two.eL (by decide) (Two.eL (by decide) (Two.iL rfl (Two.iL hg ?_)))))
    refine Two.eR (by decide) (Two.eR (by decide) (Two.eR (by decide) (Two.iR hg ?_)))
    rw [w32i (x := (p : Int)) (by omega) (by omega), Int.toNat_natCast]
    rcases hP.2.2.2.1 with ⟨x1, x2⟩ | ⟨x1, x2⟩ | ⟨x1, x2, x3⟩
    · refine Two.iR (by rw [x2]; rfl) ?_
      exact Two.ret x1.symm (QG.refl H _)
    · refine Two.eR (by rw [x2]; decide) (Two.iR (by omega) (Two.iR (by rw [x2]; rfl) ?_))
      exact Two.ret x1.symm (QG.refl H _)
    · refine Two.eR (by rw [w32i (x := r 87 p) (by omega) (by omega)]; omega) (Two.iR (by omega) (Two.eR (by rw [w32i (x := r 87 p) (by omega) (by omega)]; omega) (Two.iR (by omega) ?_)))
      exact Two.ret x3 (QG.refl H _)
  · refine Two.eL (by decide) (Two.eL (by decide) (Two.eL (by decide) (Two.eL (by decide) (Two.eL (by decide) (Two.iL hg ?_)))))
    refine Two.eR (by decide) (Two.eR (by decide) (Two.iR rfl (Two.iR hg ?_)))
    rw [w32i (x := (p : Int)) (by omega) (by omega), Int.toNat_natCast, kd.1, w32i (x := c 19 p) (by omega) (by omega)]
    by_cases e2 : c 19 p = 2
    · refine Two.iL e2 (Two.iL (by omega) ?_)
      refine Two.iR e2 (Two.iR (by omega) ?_)
      exact Two.ret kd.2.2.2.1 (QG.refl H _)
    · refine Two.eL e2 (Two.eR e2 ?_)
      exact Two.ret rfl (QG.refl H _)
theorem e_grp {N : Nat} {s : St} {k : Int} (h : 0 ≤ k ∧ k ≤ 13) : d_x8_groupOf N s k = some (s, nro k) := by
  rcases k14 h with e | e | e | e | e | e | e | e | e | e | e | e | e | e <;> subst e <;> rfl
theorem nro_rng {k : Int} : 0 ≤ nro k ∧ nro k ≤ 2 := by
  unfold nro
  split
  · omega
  · split <;> omega
/-- taken() -/
theorem r_taken {N : Nat} {c r : St} {a0 a1 a2 : Int} (h0 : r32 a0) (h1 : r32 a1) (h2 : r32 a2) (H : RG c r) : Two (d_x7_taken N c a0 a1 a2) (d_x8_taken N r a0 a1 a2) (QG c r) := by
  unfold d_x7_taken d_x8_taken
  refine P_part h0 h1 h2 (by decide) H (fun s k hs hk e0 e1 hkp hi => ?_)
  subst e0 e1
  have hd : (24 * s + k) % 24 = k ∧ (24 * s + k) / 24 = s := sk hk
  have hvv : (((24 * s + k) % 24 : Nat) : Int) < c 18 ((24 * s + k) / 24) := by rw [hd.1, hd.2]; exact hkp
  have kd := H.kd (p := 24 * s + k) (by omega) hvv
  have f1 : ((s : Int) * 24 + (k : Int)) = ((24 * s + k : Nat) : Int) := by omega
  have f2 : (24 * (s : Int) + (k : Int)) = ((24 * s + k : Nat) : Int) := by omega
  refine Two.bdL ?_
  rw [f1, f2]
  have hp : 24 * s + k < 192 := by omega
  generalize 24 * s + k = p at *
  have hg : 0 ≤ w32 (p : Int) ∧ w32 (p : Int) < ((192 : Nat) : Int) := (by ((try simp (disch := omega) only [w32i, Int.toNat_natCast]) <;> omega))
  have hr := nro_rng (k := c 19 p)
  refine Two.iL hg (Two.iR hg ?_)
  rw [w32i (x := (p : Int)) (by omega) (by omega), Int.toNat_natCast, kd.1]
  refine Two.cL (e_rows ⟨kd.2.2.2.2.1, kd.2.2.2.2.2.1⟩) ?_
  refine Two.cR (e_grp ⟨kd.2.2.2.2.1, kd.2.2.2.2.2.1⟩) ?_
  rw [w32r h2, w32i (x := nro (c 19 p)) (by omega) (by omega)]
  by_cases e : nro (c 19 p) = a2
  · refine Two.iL e (Two.iL (by omega) ?_)
    refine Two.iR e (Two.iR (by omega) ?_)
    exact Two.ret (by rw [kd.2.2.1]) (QG.refl H _)
  · refine Two.eL e (Two.eR e ?_)
    exact Two.ret rfl (QG.refl H _)
/-- number() -/
theorem r_number {N : Nat} {c r : St} {a0 a1 : Int} (h0 : r32 a0) (h1 : r32 a1) (H : RG c r) : Two (d_x7_number N c a0 a1) (d_x8_number N r a0 a1) (QG c r) := by
  unfold d_x7_number d_x8_number
  by_cases hs : 0 ≤ a0 ∧ a0 < 8
  · refine Two.cR (S8t h0 hs) (Two.eR (by decide) ?_)
    obtain ⟨s, rfl⟩ : ∃ s : Nat, a0 = s := ⟨a0.toNat, by omega⟩
    have hps := H.p18 s (by omega)
    refine Two.cL (e_hasP (by omega) h1 hps.1) ?_
    refine Two.cR (e_isP (by omega) h1 (by omega)) ?_
    rw [hps.2]
    by_cases hkp : 0 ≤ a1 ∧ a1 < c 18 s
    · rw [if_pos hkp]
      refine Two.eL (by decide) (Two.eR (by decide) ?_)
      obtain ⟨k, rfl⟩ : ∃ k : Nat, a1 = k := ⟨a1.toNat, by omega⟩
      have hd : (24 * s + k) % 24 = k ∧ (24 * s + k) / 24 = s := sk (by omega)
      have hvv : (((24 * s + k) % 24 : Nat) : Int) < c 18 ((24 * s + k) / 24) := by rw [hd.1, hd.2]; exact hkp.2
      have kd := H.kd (p := 24 * s + k) (by omega) hvv
      have nm := H.nm (p := 24 * s + k) (by omega) hvv
      have f1 : ((s : Int) * 24 + (k : Int)) = ((24 * s + k : Nat) : Int) := by omega
      have f2 : (24 * (s : Int) + (k : Int)) = ((24 * s + k : Nat) : Int) := by omega
      refine Two.bdL ?_
      rw [f1, f2]
      have hp : 24 * s + k < 192 := by omega
      generalize 24 * s + k = p at *
      have hg : 0 ≤ w32 (p : Int) ∧ w32 (p : Int) < ((192 : Nat) : Int) := (by ((try simp (disch := omega) only [w32i, Int.toNat_natCast]) <;> omega))
      refine Two.iL hg (Two.iR hg ?_)
      rw [w32i (x := (p : Int)) (by omega) (by omega), Int.toNat_natCast, kd.1]
      have a := e_hn (N := N) (s := c) (k := c 19 p) ⟨kd.2.2.2.2.1, kd.2.2.2.2.2.1⟩
      have b := e_in8 (N := N) (s := r) (k := c 19 p) ⟨kd.2.2.2.2.1, kd.2.2.2.2.2.1⟩
      by_cases hnb : nb (c 19 p)
      · have nm := nm (by unfold nb at hnb; omega)
        refine Two.cL (a.1 hnb) (Two.eL (by decide) (Two.iL (by omega) ?_))
        refine Two.cR (b.1 hnb) (Two.eR (by decide) (Two.iR (by omega) ?_))
        exact Two.ret (by rw [nm.1, w32i (x := c 21 p) (by omega) (by omega)]) (QG.refl H _)
      · refine Two.cL (a.2 hnb) (Two.iL (by decide) ?_)
        refine Two.cR (b.2 hnb) (Two.iR (by decide) ?_)
        exact Two.ret rfl (QG.refl H _)
    · rw [if_neg hkp]
      refine Two.iL (by decide) (Two.iR (by decide) ?_)
      exact Two.ret rfl (QG.refl H _)
  · refine Two.cL (e_hasPf h0 hs) (Two.iL (by decide) ?_)
    refine Two.cR (S8f h0 hs) (Two.iR (by decide) ?_)
    exact Two.ret rfl (QG.refl H _)
/-- entry() -/
theorem r_entry {N : Nat} {c r : St} {a0 a1 a2 : Int} (h0 : r32 a0) (h1 : r32 a1) (h2 : r32 a2) (H : RG c r) : Two (d_x7_entry N c a0 a1 a2) (d_x8_entry N r a0 a1 a2) (QG c r) := by
  unfold d_x7_entry d_x8_entry
  by_cases hs : 0 ≤ a0 ∧ a0 < 8
  · refine Two.cR (S8t h0 hs) (Two.eR (by decide) ?_)
    obtain ⟨s, rfl⟩ : ∃ s : Nat, a0 = s := ⟨a0.toNat, by omega⟩
    have hps := H.p18 s (by omega)
    refine Two.cL (e_hasP (by omega) h1 hps.1) ?_
    refine Two.cR (e_isP (by omega) h1 (by omega)) ?_
    rw [hps.2]
    by_cases hkp : 0 ≤ a1 ∧ a1 < c 18 s
    · rw [if_pos hkp]
      refine Two.eL (by decide) (Two.eR (by decide) ?_)
      obtain ⟨k, rfl⟩ : ∃ k : Nat, a1 = k := ⟨a1.toNat, by omega⟩
      have hd : (24 * s + k) % 24 = k ∧ (24 * s + k) / 24 = s := sk (by omega)
      have hvv : (((24 * s + k) % 24 : Nat) : Int) < c 18 ((24 * s + k) / 24) := by rw [hd.1, hd.2]; exact hkp.2
      have kd := H.kd (p := 24 * s + k) (by omega) hvv
      have wf := H.wf (p := 24 * s + k) (by omega) hvv
      have f1 : ((s : Int) * 24 + (k : Int)) = ((24 * s + k : Nat) : Int) := by omega
      have f2 : (24 * (s : Int) + (k : Int)) = ((24 * s + k : Nat) : Int) := by omega
      refine Two.bdL ?_
      rw [f1, f2]
      have hp : 24 * s + k < 192 := by omega
      generalize 24 * s + k = p at *
      have hg : 0 ≤ w32 (p : Int) ∧ w32 (p : Int) < ((192 : Nat) : Int) := (by ((try simp (disch := omega) only [w32i, Int.toNat_natCast]) <;> omega))
      refine Two.iL hg (Two.iR hg ?_)
      rw [w32i (x := (p : Int)) (by omega) (by omega), Int.toNat_natCast, kd.1, w32i (x := c 19 p) (by omega) (by omega)]
      have h2' := h2
      unfold r32 at h2'
      by_cases e2 : c 19 p = 2
      · have w5 := wf.2.2.2.2.1
        rw [← tx_ct c r 19 p (by omega) (by omega), ← tx_ct c r 24 p (by omega) (by omega)] at w5
        have w5 := w5 e2
        refine Two.iL e2 (Two.iR e2 (Two.iR (by omega) ?_))
        rw [kd.2.2.2.1, w32i (x := c 24 p - 1) (by omega) (by omega), w32r h2, w32i (x := c 24 p) (by omega) (by omega)]
        refine Two.cR (e_in32 N r h2 (by unfold r32; omega) (by unfold r32; omega)) ?_
        by_cases hi : 0 ≤ a2 ∧ a2 < c 24 p
        · rw [if_pos (show 0 ≤ a2 ∧ a2 ≤ c 24 p - 1 by omega)]
          obtain ⟨i, rfl⟩ : ∃ i : Nat, a2 = i := ⟨a2.toNat, by omega⟩
          refine Two.eL (by omega) (Two.iL (by omega) (Two.iL (by omega) ?_))
          have g1 : 0 ≤ w32 ((p : Int) * 8 + (i : Int)) ∧ w32 ((p : Int) * 8 + (i : Int)) < ((1536 : Nat) : Int) := (by ((try simp (disch := omega) only [w32i, Int.toNat_natCast]) <;> omega))
          have g2 : 0 ≤ w32 (8 * (p : Int) + (i : Int)) ∧ w32 (8 * (p : Int) + (i : Int)) < ((1536 : Nat) : Int) := (by ((try simp (disch := omega) only [w32i, Int.toNat_natCast]) <;> omega))
          refine Two.iL g1 ?_
          refine Two.eR (by decide) (Two.iR g2 ?_)
          rw [w32i (x := (p : Int) * 8 + (i : Int)) (by omega) (by omega), w32i (x := 8 * (p : Int) + (i : Int)) (by omega) (by omega), show ((p : Int) * 8 + (i : Int)).toNat = 8 * p + i by omega, show (8 * (p : Int) + (i : Int)).toNat = 8 * p + i by omega]
          have w := w5.2.2 i hi.2
          rw [← tx_ct c r 25 _ (by omega) (by omega), ← tx_rt c r 85 _ (by omega) (by omega)] at w
          exact Two.ret w (QG.refl H _)
        · rw [if_neg (show ¬ (0 ≤ a2 ∧ a2 ≤ c 24 p - 1) by omega)]
          refine Two.iR (by decide) ?_
          by_cases hn : a2 < 0
          · refine Two.iL hn ?_
            exact Two.ret rfl (QG.refl H _)
          · refine Two.eL hn (Two.iL (by omega) (Two.eL (by omega) ?_))
            exact Two.ret rfl (QG.refl H _)
      · refine Two.eL e2 (Two.eR e2 ?_)
        exact Two.ret rfl (QG.refl H _)
    · rw [if_neg hkp]
      refine Two.iL (by decide) (Two.iR (by decide) ?_)
      exact Two.ret rfl (QG.refl H _)
  · refine Two.cL (e_hasPf h0 hs) (Two.iL (by decide) ?_)
    refine Two.cR (S8f h0 hs) (Two.iR (by decide) ?_)
    exact Two.ret rfl (QG.refl H _)
