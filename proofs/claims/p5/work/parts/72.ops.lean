def Tw (A B : Option Rs) (Q : St → St → Prop) : Prop := ∃ c r v w, A = some (c, v) ∧ B = some (r, w) ∧ Q c r
theorem isF {N : Nat} {r : St} {a : Nat} (h : a < 8) (g : 0 ≤ r 78 a ∧ r 78 a ≤ 24) : d_x8_isFull N r (a : Int) = some (r, if r 78 a = 0 then 0 else 1) := by
  unfold d_x8_isFull
  rw [S8t (by unfold r32; omega) (by omega), bI_some, w32_1, if_neg (by decide), w32i (x := (a : Int)) (by omega) (by omega), Int.toNat_natCast, if_pos (by omega), w32i (x := r 78 a) (by omega) (by omega)]
  by_cases e : r 78 a = 0
  · rw [if_pos e, if_neg (by omega)]
  · rw [if_neg e, if_pos (by omega)]
/-- sum(): both end -/
theorem r_sum {N : Nat} (hN : 100 ≤ N) {c r : St} {a0 a1 : Int} (h0 : r32 a0) (h1 : r32 a1) (H : RG c r) : Tw (d_x7_sum N c a0 a1) (d_x8_sum N r a0 a1) (fun c' r' => QG c r c' r' 0) := by
  have hp := H.p18
  have hl := H.2.2.2.2.2.1
  unfold RLi at hl
  unfold d_x7_sum d_x8_sum
  rw [Rr h0 h1 (by unfold r32; omega) (fun a ha => (hp a ha).1), bI_some]
  by_cases hs : 0 ≤ a0 ∧ a0 < 8
  · obtain ⟨s, rfl⟩ : ∃ s : Nat, a0 = s := ⟨a0.toNat, by omega⟩
    have hps := hp s (by omega)
    rw [isF (by omega) (by omega), bI_some, hps.2, Int.toNat_natCast]
    by_cases hi : 0 ≤ a1 ∧ a1 ≤ 64
    · rw [if_pos (show (0 ≤ (s : Int) ∧ (s : Int) < 8) ∧ 0 ≤ a1 ∧ a1 ≤ 64 from ⟨hs, hi⟩)]
      by_cases he : c 18 s = 0
      · rw [if_pos he, if_pos he, if_neg (by decide), if_pos (by decide)]
        exact ⟨c, r, _, _, rfl, rfl, QG.refl H _⟩
      · rw [if_neg he, if_neg he, if_pos (by decide), if_neg (by decide), int h1 (by unfold r32; omega) (by unfold r32; omega) hi, bI_some, if_neg (by decide), e_begin, bV_some]
        obtain ⟨c1, r1, v1, x1, w1, e1, e2, H1, M1, F1, A1, A2⟩ := L_sum (Or.inl rfl) hN (s := s) (by omega) (by rw [← tx_ct c r 18 s (by omega) (by omega)]; exact he) hi _ _ a1.toNat N _ _ 0 0 0 1 (by omega) (by omega) (by omega) (Or.inl rfl) (S_begin H hl.2 hl.1) Mo.refl Fm.refl
        have g1 := A1.rng
        have g2 := A2.rng
        unfold d_x4_addUp
        rw [e1, bI_some]
        have er : bV (d_x8_begins N r (r 77 9)) (fun s10 => d_x8_sum_40L N N s10 (s : Int) a1 0 1 0) = d_x8_sum_84 N r1 x1 w1 := e2
        rw [er]
        refine ⟨up c1 0 13 (c1 50 3), up r1 77 39 (r1 77 36), (if v1 = -6 then -6 else if v1 = 1 then up c1 0 13 (c1 50 3) 50 4 else -4611686018427387904), (if w1 < 0 then -4611686018427387904 else x1), ?_, ?_, S_end H H1 M1 F1 0⟩
        · show (if w32 v1 = -6 then some (up c1 0 13 (c1 50 3), -6) else if w32 v1 = 1 then some (up c1 0 13 (c1 50 3), up c1 0 13 (c1 50 3) 50 4) else some (up c1 0 13 (c1 50 3), -4611686018427387904)) = _
          rw [w32i (x := v1) (by omega) (by omega)]
          split
          · rfl
          · split <;> rfl
        · show (if w32 w1 < 0 then some (up r1 77 39 (r1 77 36), -4611686018427387904) else some (up r1 77 39 (r1 77 36), x1)) = _
          rw [w32i (x := w1) (by omega) (by omega)]
          split <;> rfl
    · rw [if_neg (show ¬ ((0 ≤ (s : Int) ∧ (s : Int) < 8) ∧ 0 ≤ a1 ∧ a1 ≤ 64) from fun z => hi z.2), if_neg (by decide), inf h1 (by unfold r32; omega) (by unfold r32; omega) hi, bI_some]
      refine ⟨c, r, _, -4611686018427387904, rfl, ?_, QG.refl H _⟩
      split
      · rfl
      · rfl
  · rw [if_neg (show ¬ ((0 ≤ a0 ∧ a0 < 8) ∧ 0 ≤ a1 ∧ a1 ≤ 64) from fun z => hs z.1), if_neg (by decide)]
    unfold d_x8_isFull
    rw [S8f h0 hs]
    exact ⟨c, r, _, _, rfl, rfl, QG.refl H _⟩
/-- find() -/
theorem r_find {N : Nat} (hN : 100 ≤ N) {c r : St} {a0 a1 a2 : Int} (h0 : r32 a0) (h2 : r32 a2) (H : RG c r) : Two (d_x7_find N c a0 a1 a2) (d_x8_find N r a0 a1 a2) (QG c r) := by
  have hp := H.p18
  have hl := H.2.2.2.2.2.1
  unfold RLi at hl
  unfold d_x7_find d_x8_find
  refine Two.cL (Rr h0 h2 (by unfold r32; omega) (fun a ha => (hp a ha).1)) ?_
  by_cases hs : 0 ≤ a0 ∧ a0 < 8
  · refine Two.cR (S8t h0 hs) (Two.eR (by decide) ?_)
    by_cases hi : 0 ≤ a2 ∧ a2 ≤ 64
    · refine Two.cR (int h2 (by unfold r32; omega) (by unfold r32; omega) hi) (Two.eR (by decide) ?_)
      obtain ⟨s, rfl⟩ : ∃ s : Nat, a0 = s := ⟨a0.toNat, by omega⟩
      have hps := hp s (by omega)
      rw [if_pos (show (0 ≤ (s : Int) ∧ (s : Int) < 8) ∧ 0 ≤ a2 ∧ a2 ≤ 64 from ⟨hs, hi⟩), Int.toNat_natCast]
      by_cases he : c 18 s = 0
      · rw [if_pos he]
        refine Two.eL (by decide) ?_
        (repeat (first | with_reducible refine Two.bdR ?_ | (with_reducible refine Two.iR ?_ ?_; · ((try simp (disch := omega) only [w32i, Int.toNat_natCast]) <;> omega)) | (with_reducible refine Two.eR ?_ ?_; · ((try simp (disch := omega) only [w32i, Int.toNat_natCast]) <;> omega))))
        exact Two.ret rfl (QG.refl H _)
      · rw [if_neg he]
        refine Two.iL (by decide) ?_
        (repeat (first | with_reducible refine Two.bdR ?_ | (with_reducible refine Two.iR ?_ ?_; · ((try simp (disch := omega) only [w32i, Int.toNat_natCast]) <;> omega)) | (with_reducible refine Two.eR ?_ ?_; · ((try simp (disch := omega) only [w32i, Int.toNat_natCast]) <;> omega))))
        refine Two.vL (s := up (up (up c 50 1 ((26 : Nat) : Int)) 50 2 (c 0 12)) 50 3 0) (v := 0) rfl ?_
        refine Two.vR (s := up (up r 77 36 0) 77 37 (r 77 9)) (v := 0) rfl ?_
        obtain ⟨c1, r1, v1, e1, e2, H1, M1, F1⟩ := L_find (Or.inl rfl) hN (s := s) (by omega) (by rw [← tx_ct c r 18 s (by omega) (by omega)]; exact he) hi _ _ a2.toNat N _ _ 0 (x := a1) (by omega) (by omega) (by omega) (S_begin H hl.2 hl.1) Mo.refl Fm.refl
        unfold d_x4_placeOf
        refine Two.cL e1 ?_
        rw [e2]
        refine Two.cL (s := up c1 0 13 (c1 50 3)) (v := v1) rfl ?_
        unfold d_x8_find_121
        refine Two.bdR ?_
        exact Two.ret rfl (S_end H H1 M1 F1 v1)
    · refine Two.cR (inf h2 (by unfold r32; omega) (by unfold r32; omega) hi) (Two.iR (by decide) ?_)
      rw [if_neg (show ¬ ((0 ≤ a0 ∧ a0 < 8) ∧ 0 ≤ a2 ∧ a2 ≤ 64) from fun z => hi z.2)]
      refine Two.eL (by decide) ?_
      exact Two.ret rfl (QG.refl H _)
  · refine Two.cR (S8f h0 hs) (Two.iR (by decide) ?_)
    rw [if_neg (show ¬ ((0 ≤ a0 ∧ a0 < 8) ∧ 0 ≤ a2 ∧ a2 ≤ 64) from fun z => hs z.1)]
    refine Two.eL (by decide) ?_
    exact Two.ret rfl (QG.refl H _)
/-- rises() -/
theorem r_rises {N : Nat} (hN : 100 ≤ N) {c r : St} {a0 : Int} (h0 : r32 a0) (H : RG c r) : Two (d_x7_rises N c a0) (d_x8_rises N r a0) (QG c r) := by
  have hp := H.p18
  have hl := H.2.2.2.2.2.1
  unfold RLi at hl
  unfold d_x7_rises d_x8_rises
  refine Two.cL (Rr h0 (by unfold r32; omega) (by unfold r32; omega) (fun a ha => (hp a ha).1)) ?_
  by_cases hs : 0 ≤ a0 ∧ a0 < 8
  · refine Two.cR (S8t h0 hs) (Two.eR (by decide) ?_)
    obtain ⟨s, rfl⟩ : ∃ s : Nat, a0 = s := ⟨a0.toNat, by omega⟩
    have hps := hp s (by omega)
    rw [if_pos (show (0 ≤ (s : Int) ∧ (s : Int) < 8) ∧ 0 ≤ (0 : Int) ∧ (0 : Int) ≤ 64 from ⟨hs, by decide⟩), Int.toNat_natCast]
    by_cases he : c 18 s = 0
    · rw [if_pos he]
      refine Two.eL (by decide) ?_
      (repeat (first | with_reducible refine Two.bdR ?_ | (with_reducible refine Two.iR ?_ ?_; · ((try simp (disch := omega) only [w32i, Int.toNat_natCast]) <;> omega)) | (with_reducible refine Two.eR ?_ ?_; · ((try simp (disch := omega) only [w32i, Int.toNat_natCast]) <;> omega))))
      exact Two.ret rfl (QG.refl H _)
    · rw [if_neg he]
      refine Two.iL (by decide) ?_
      (repeat (first | with_reducible refine Two.bdR ?_ | (with_reducible refine Two.iR ?_ ?_; · ((try simp (disch := omega) only [w32i, Int.toNat_natCast]) <;> omega)) | (with_reducible refine Two.eR ?_ ?_; · ((try simp (disch := omega) only [w32i, Int.toNat_natCast]) <;> omega))))
      refine Two.vL (s := up (up (up c 50 1 ((26 : Nat) : Int)) 50 2 (c 0 12)) 50 3 0) (v := 0) rfl ?_
      refine Two.vR (s := up (up r 77 36 0) 77 37 (r 77 9)) (v := 0) rfl ?_
      obtain ⟨c1, r1, v1, w1, z1, e1, e2, H1, M1, F1, g1, V1⟩ := L_rise (Or.inl rfl) hN (s := s) (by omega) (by rw [← tx_ct c r 18 s (by omega) (by omega)]; exact he) _ _ 64 N _ _ 0 0 0 (by omega) (by omega) (by omega) (fun z => by omega) (S_begin H hl.2 hl.1) Mo.refl Fm.refl
      unfold d_x4_rising
      refine Two.cL e1 ?_
      rw [e2]
      refine Two.cL (s := up c1 0 13 (c1 50 3)) (v := v1) rfl ?_
      unfold d_x8_rises_110
      refine Two.bdR ?_
      rcases V1 with ⟨a, b⟩ | ⟨a, b⟩
      · refine Two.iR (by ((try simp (disch := omega) only [w32i, Int.toNat_natCast]) <;> omega)) ?_
        exact Two.ret b.symm (S_end H H1 M1 F1 v1)
      · refine Two.eR (by ((try simp (disch := omega) only [w32i, Int.toNat_natCast]) <;> omega)) ?_
        exact Two.ret b.symm (S_end H H1 M1 F1 v1)
  · refine Two.cR (S8f h0 hs) (Two.iR (by decide) ?_)
    rw [if_neg (show ¬ ((0 ≤ a0 ∧ a0 < 8) ∧ 0 ≤ (0 : Int) ∧ (0 : Int) ≤ 64) from fun z => hs z.1)]
    refine Two.eL (by decide) ?_
    exact Two.ret rfl (QG.refl H _)
/-- differ() -/
theorem r_differ {N : Nat} (hN : 100 ≤ N) {c r : St} {a0 a1 a2 : Int} (h0 : r32 a0) (h1 : r32 a1) (h2 : r32 a2) (H : RG c r) : Two (d_x7_differ N c a0 a1 a2) (d_x8_differ N r a0 a1 a2) (QG c r) := by
  have hp := H.p18
  have hl := H.2.2.2.2.2.1
  unfold RLi at hl
  unfold d_x7_differ d_x8_differ
  by_cases hs : 0 ≤ a0 ∧ a0 < 8
  · refine Two.cR (S8t h0 hs) (Two.eR (by decide) ?_)
    refine Two.cL (S7t h0 hs) (Two.eL (by decide) ?_)
    by_cases hs1 : 0 ≤ a1 ∧ a1 < 8
    · refine Two.cR (S8t h1 hs1) (Two.eR (by decide) ?_)
      refine Two.cL (S7t h1 hs1) (Two.eL (by decide) ?_)
      have h2' := h2
      unfold r32 at h2
      by_cases hi : 0 ≤ a2 ∧ a2 ≤ 64
      · refine Two.cR (int h2' (by unfold r32; omega) (by unfold r32; omega) hi) (Two.eR (by decide) ?_)
        (repeat (first | with_reducible refine Two.bdL ?_ | (with_reducible refine Two.iL ?_ ?_; · ((try simp (disch := omega) only [w32i, Int.toNat_natCast]) <;> omega)) | (with_reducible refine Two.eL ?_ ?_; · ((try simp (disch := omega) only [w32i, Int.toNat_natCast]) <;> omega))))
        obtain ⟨s, rfl⟩ : ∃ s : Nat, a0 = s := ⟨a0.toNat, by omega⟩
        obtain ⟨o, rfl⟩ : ∃ o : Nat, a1 = o := ⟨a1.toNat, by omega⟩
        have hps := hp s (by omega)
        have hpo := hp o (by omega)
        refine Two.cL (Em (by omega) hps.1) ?_
        by_cases he : c 18 s = 0
        · rw [if_pos he]
          refine Two.eL (by decide) ?_
          (repeat (first | with_reducible refine Two.bdR ?_ | (with_reducible refine Two.iR ?_ ?_; · ((try simp (disch := omega) only [w32i, Int.toNat_natCast]) <;> omega)) | (with_reducible refine Two.eR ?_ ?_; · ((try simp (disch := omega) only [w32i, Int.toNat_natCast]) <;> omega))))
          exact Two.ret rfl (QG.refl H _)
        · rw [if_neg he]
          refine Two.iL (by decide) ?_
          refine Two.cL (Em (by omega) hpo.1) ?_
          by_cases he1 : c 18 o = 0
          · rw [if_pos he1]
            refine Two.eL (by decide) ?_
            (repeat (first | with_reducible refine Two.bdR ?_ | (with_reducible refine Two.iR ?_ ?_; · ((try simp (disch := omega) only [w32i, Int.toNat_natCast]) <;> omega)) | (with_reducible refine Two.eR ?_ ?_; · ((try simp (disch := omega) only [w32i, Int.toNat_natCast]) <;> omega))))
            exact Two.ret rfl (QG.refl H _)
          · rw [if_neg he1]
            refine Two.iL (by decide) ?_
            (repeat (first | with_reducible refine Two.bdR ?_ | (with_reducible refine Two.iR ?_ ?_; · ((try simp (disch := omega) only [w32i, Int.toNat_natCast]) <;> omega)) | (with_reducible refine Two.eR ?_ ?_; · ((try simp (disch := omega) only [w32i, Int.toNat_natCast]) <;> omega))))
            refine Two.vL (s := up (up (up c 50 1 ((26 : Nat) : Int)) 50 2 (c 0 12)) 50 3 0) (v := 0) rfl ?_
            refine Two.vR (s := up (up r 77 36 0) 77 37 (r 77 9)) (v := 0) rfl ?_
            obtain ⟨c1, r1, v1, e1, e2, H1, M1, F1⟩ := L_diff (Or.inl rfl) hN (s := s) (o := o) (by omega) (by rw [← tx_ct c r 18 s (by omega) (by omega)]; exact he) (by omega) (by rw [← tx_ct c r 18 o (by omega) (by omega)]; exact he1) hi _ _ a2.toNat N _ _ 0 (by omega) (by omega) (by omega) (S_begin H hl.2 hl.1) Mo.refl Fm.refl
            unfold d_x4_firstUnlike
            refine Two.cL e1 ?_
            rw [e2]
            refine Two.cL (s := up c1 0 13 (c1 50 3)) (v := v1) rfl ?_
            unfold d_x8_differ_192
            refine Two.bdR ?_
            exact Two.ret rfl (S_end H H1 M1 F1 v1)
      · refine Two.cR (inf h2' (by unfold r32; omega) (by unfold r32; omega) hi) (Two.iR (by decide) ?_)
        by_cases hneg : a2 < 0
        · (repeat (first | with_reducible refine Two.bdL ?_ | (with_reducible refine Two.iL ?_ ?_; · ((try simp (disch := omega) only [w32i, Int.toNat_natCast]) <;> omega)) | (with_reducible refine Two.eL ?_ ?_; · ((try simp (disch := omega) only [w32i, Int.toNat_natCast]) <;> omega))))
          exact Two.ret rfl (QG.refl H _)
        · (repeat (first | with_reducible refine Two.bdL ?_ | (with_reducible refine Two.iL ?_ ?_; · ((try simp (disch := omega) only [w32i, Int.toNat_natCast]) <;> omega)) | (with_reducible refine Two.eL ?_ ?_; · ((try simp (disch := omega) only [w32i, Int.toNat_natCast]) <;> omega))))
          exact Two.ret rfl (QG.refl H _)
    · refine Two.cR (S8f h1 hs1) (Two.iR (by decide) ?_)
      refine Two.cL (S7f h1 hs1) (Two.iL (by decide) ?_)
      exact Two.ret rfl (QG.refl H _)
  · refine Two.cR (S8f h0 hs) (Two.iR (by decide) ?_)
    refine Two.cL (S7f h0 hs) (Two.iL (by decide) ?_)
    exact Two.ret rfl (QG.refl H _)
theorem RG.sheets {c r c' r' : St} (H : RG c r) (S : RSh c' r') (e : Fr cSh c c') (f : Fr mSh r r') : RG c' r' := by
  unfold Fr cSh mSh at *
  exact ⟨H.1.cong (e _ _ (by omega)) (fun k => e _ _ (by omega)) (f _ _ (by omega)) (fun k => f _ _ (by omega)), H.2.1.cong (fun a k _ _ => e a k (by omega)) (fun a k _ _ => f a k (by omega)), ⟨H.2.2.1.1.cong (fun a k _ _ => e a k (by omega)), H.2.2.1.2.cong (fun a k _ _ => e a k (by omega))⟩, H.2.2.2.1.cong (fun a k _ _ => e a k (by omega)) (e _ _ (by omega)) (e _ _ (by omega)) (fun a k _ _ => f a k (by omega)) (f _ _ (by omega)) (f _ _ (by omega)), S, H.2.2.2.2.2.1.cong (e _ _ (by omega)) (f _ _ (by omega)), H.2.2.2.2.2.2.cong (e _ _ (by omega)) (f _ _ (by omega))⟩
theorem QG.sheets {c r c' r' : St} (H : RG c r) (S : RSh c' r') (e : Fr cSh c c') (f : Fr mSh r r') (v : Int) : QG c r c' r' v := by
  refine ⟨H.sheets S e f, ?_, ?_⟩
  · intro a k h
    exact e a k (by unfold cSh; omega)
  · intro a k h
    exact f a k (by unfold mSh; omega)
theorem QG.trans {c r c1 r1 c2 r2 : St} {v w : Int} (h : QG c r c1 r1 v) (g : QG c1 r1 c2 r2 w) (x : Int) : QG c r c2 r2 x := ⟨g.1, fun a k z => (g.2.1 a k z).trans (h.2.1 a k z), fun a k z => (g.2.2 a k z).trans (h.2.2 a k z)⟩
theorem RSh.set {c r : St} (H : RSh c r) {h i : Nat} (x : Int) : RSh (up c 54 (h * 40 + i) x) (up r 129 (h * 40 + i) x) := by
  intro k hk
  rcases H k hk with z | ⟨z1, z2, z3, z4, z5, z6, z7⟩
  · left
    rw [up_ne (by omega), up_ne (by omega)]
    exact z
  · right
    rw [up_ne (by omega), up_ne (by omega), up_ne (by omega), up_ne (by omega), up_ne (by omega)]
    refine ⟨z1, z2, z3, z4, z5, z6, fun j hj => ?_⟩
    by_cases e : k * 40 + j = h * 40 + i
    · rw [e, up_same, up_same]
    · rw [up_nj e, up_nj e]
      exact z7 j hj
theorem L_filmW {N : Nat} {h n : Nat} (hh : h < 4) (hn : n ≤ 16) (c0 r0 : St) : ∀ (k m : Nat) (c r : St) (i : Nat), i + k = n → k < m → RSh c r → c 52 h = 0 → Fr cSh c0 c → Fr mSh r0 r → (∀ j : Nat, j < n → r 110 j = c 55 j) →
    Two (d_x7_film_86L N m c (h : Int) (n : Int) (i : Int)) (d_x8_film_142L N m r (h : Int) (n : Int) (i : Int)) (fun c' r' _ => RSh c' r' ∧ Fr cSh c0 c' ∧ Fr mSh r0 r') := by
  intro k
  induction k with
  | zero =>
    intro m c r i hi hm S h5 e f g
    obtain ⟨m, rfl⟩ : ∃ m', m = m' + 1 := ⟨m - 1, by omega⟩
    show Two (d_x7_film_86 N (d_x7_film_86L N m) c h n i) (d_x8_film_142 N (d_x8_film_142L N m) r h n i) _
    unfold d_x7_film_86 d_x8_film_142
    (repeat (first | with_reducible refine Two.bdL ?_ | with_reducible refine Two.bdR ?_ | (with_reducible refine Two.iL ?_ ?_; · ((try simp (disch := omega) only [w32i, Int.toNat_natCast]) <;> omega)) | (with_reducible refine Two.eL ?_ ?_; · ((try simp (disch := omega) only [w32i, Int.toNat_natCast]) <;> omega)) | (with_reducible refine Two.iR ?_ ?_; · ((try simp (disch := omega) only [w32i, Int.toNat_natCast]) <;> omega)) | (with_reducible refine Two.eR ?_ ?_; · ((try simp (disch := omega) only [w32i, Int.toNat_natCast]) <;> omega))))
    exact Two.ret rfl ⟨S, e, f⟩
  | succ k ih =>
    intro m c r i hi hm S h5 e f g
    obtain ⟨m, rfl⟩ : ∃ m', m = m' + 1 := ⟨m - 1, by omega⟩
    show Two (d_x7_film_86 N (d_x7_film_86L N m) c h n i) (d_x8_film_142 N (d_x8_film_142L N m) r h n i) _
    unfold d_x7_film_86 d_x8_film_142
    have e40 : (40 * (h : Int) + (i : Int)).toNat = h * 40 + i := by omega
    (repeat (first | with_reducible refine Two.bdL ?_ | with_reducible refine Two.bdR ?_ | (with_reducible refine Two.iL ?_ ?_; · ((try simp (disch := omega) only [w32i, Int.toNat_natCast]) <;> omega)) | (with_reducible refine Two.eL ?_ ?_; · ((try simp (disch := omega) only [w32i, Int.toNat_natCast]) <;> omega)) | (with_reducible refine Two.iR ?_ ?_; · ((try simp (disch := omega) only [w32i, Int.toNat_natCast]) <;> omega)) | (with_reducible refine Two.eR ?_ ?_; · ((try simp (disch := omega) only [w32i, Int.toNat_natCast]) <;> omega))))
    rw [w32i (x := (i : Int)) (by omega) (by omega), Int.toNat_natCast, w32i (x := 40 * (h : Int) + (i : Int)) (by omega) (by omega), e40, g i (by omega)]
    refine Two.vL (e_write c hh (by omega) (by rw [h5]; unfold r32; omega)) ?_
    refine Two.bdL ?_
    have ecut : cut (c 52 h) (c 55 i) = c 55 i := by
      unfold cut
      rw [h5, if_neg (by decide), if_neg (by decide)]
    rw [ecut]
    refine ih m _ _ (i + 1) (by omega) (by omega) (S.set _) (by rw [up_ne (by omega)]; exact h5) (e.trans (Fr.up (by unfold cSh; omega))) (f.trans (Fr.up (by unfold mSh; omega))) (fun j hj => ?_)
    rw [up_ne (by omega), up_ne (by omega)]
    exact g j hj
/-- film() -/
theorem r_film {N : Nat} (hN : 100 ≤ N) {c r : St} {a0 a1 a2 : Int} (h0 : r32 a0) (h1 : r32 a1) (h2 : r32 a2) (H : RG c r) : Two (d_x7_film N c a0 a1 a2) (d_x8_film N r a0 a1 a2) (QG c r) := by
  have hp := H.p18
  have hl := H.2.2.2.2.2.1
  unfold RLi at hl
  unfold d_x7_film d_x8_film
  by_cases hh : 0 ≤ a0 ∧ a0 < 4
  · refine Two.cR (H8t h0 hh) (Two.eR (by decide) ?_)
    refine Two.cL (H7t h0 hh) (Two.eL (by decide) ?_)
    refine Two.cL (Rr h1 h2 (by unfold r32; omega) (fun a ha => (hp a ha).1)) ?_
    by_cases hs : 0 ≤ a1 ∧ a1 < 8
    · refine Two.cR (S8t h1 hs) (Two.eR (by decide) ?_)
      by_cases hi : 0 ≤ a2 ∧ a2 ≤ 16
      · refine Two.cR (int h2 (by unfold r32; omega) (by unfold r32; omega) hi) (Two.eR (by decide) ?_)
        obtain ⟨s, rfl⟩ : ∃ s : Nat, a1 = s := ⟨a1.toNat, by omega⟩
        have hps := hp s (by omega)
        rw [if_pos (show (0 ≤ (s : Int) ∧ (s : Int) < 8) ∧ 0 ≤ a2 ∧ a2 ≤ 16 from ⟨hs, hi⟩), Int.toNat_natCast]
        by_cases he : c 18 s = 0
        · rw [if_pos he]
          refine Two.eL (by decide) ?_
          (repeat (first | with_reducible refine Two.bdR ?_ | (with_reducible refine Two.iR ?_ ?_; · ((try simp (disch := omega) only [w32i, Int.toNat_natCast]) <;> omega)) | (with_reducible refine Two.eR ?_ ?_; · ((try simp (disch := omega) only [w32i, Int.toNat_natCast]) <;> omega))))
          exact Two.ret rfl (QG.refl H _)
        · rw [if_neg he]
          refine Two.iL (by decide) ?_
          (repeat (first | with_reducible refine Two.bdR ?_ | (with_reducible refine Two.iR ?_ ?_; · ((try simp (disch := omega) only [w32i, Int.toNat_natCast]) <;> omega)) | (with_reducible refine Two.eR ?_ ?_; · ((try simp (disch := omega) only [w32i, Int.toNat_natCast]) <;> omega))))
          refine Two.vL (s := up (up (up c 50 1 ((26 : Nat) : Int)) 50 2 (c 0 12)) 50 3 0) (v := 0) rfl ?_
          refine Two.vR (s := up (up r 77 36 0) 77 37 (r 77 9)) (v := 0) rfl ?_
          obtain ⟨c1, r1, v1, w1, z1, e1, e2, H1, I1, ec, er, er7, g1, V1⟩ := L_film hN (s := s) (T := tx c r) (by omega) (by rw [← tx_ct c r 18 s (by omega) (by omega)]; exact he) (h := a0) hi c r a2.toNat N _ _ 0 (by omega) (by omega) (S_begin H hl.2 hl.1) (H.2.1.2.2.2.cong (fun a k _ _ => by rw [up_ne (by omega), up_ne (by omega), up_ne (by omega)])) (fun a k z => by rw [up_ne (by omega), up_ne (by omega), up_ne (by omega)]) (fun a k z => by rw [up_ne (by omega), up_ne (by omega)]) (fun k z y w => by rw [up_nj (by omega), up_nj (by omega)]) (fun i hi => by omega)
          unfold d_x4_gather
          have e1' : d_x4_gather_3L N 26 N (up (up (up c 50 1 ((26 : Nat) : Int)) 50 2 (c 0 12)) 50 3 0) (s : Int) a2 0 = some (c1, v1) := e1
          have e2' : d_x8_film_58L N N (up (up r 77 36 0) 77 37 (r 77 9)) a0 (s : Int) a2 0 1 0 = d_x8_film_112 N r1 a0 z1 w1 := e2
          refine Two.cL e1' ?_
          rw [e2']
          have QE := S_end2 H H1 I1 ec er er7 0
          refine Two.cL (s := up c1 0 13 (c1 50 3)) (v := v1) rfl ?_
          unfold d_x8_film_112
          refine Two.bdR ?_
          rcases V1 with ⟨a, b⟩ | ⟨a, b, b1, b2, b3⟩
          · (repeat (first | with_reducible refine Two.bdL ?_ | with_reducible refine Two.bdR ?_ | (with_reducible refine Two.iL ?_ ?_; · ((try simp (disch := omega) only [w32i, Int.toNat_natCast]) <;> omega)) | (with_reducible refine Two.eL ?_ ?_; · ((try simp (disch := omega) only [w32i, Int.toNat_natCast]) <;> omega)) | (with_reducible refine Two.iR ?_ ?_; · ((try simp (disch := omega) only [w32i, Int.toNat_natCast]) <;> omega)) | (with_reducible refine Two.eR ?_ ?_; · ((try simp (disch := omega) only [w32i, Int.toNat_natCast]) <;> omega))))
            exact Two.ret rfl QE
          · (repeat (first | with_reducible refine Two.bdL ?_ | with_reducible refine Two.bdR ?_ | (with_reducible refine Two.iL ?_ ?_; · ((try simp (disch := omega) only [w32i, Int.toNat_natCast]) <;> omega)) | (with_reducible refine Two.eL ?_ ?_; · ((try simp (disch := omega) only [w32i, Int.toNat_natCast]) <;> omega)) | (with_reducible refine Two.iR ?_ ?_; · ((try simp (disch := omega) only [w32i, Int.toNat_natCast]) <;> omega)) | (with_reducible refine Two.eR ?_ ?_; · ((try simp (disch := omega) only [w32i, Int.toNat_natCast]) <;> omega))))
            subst b
            obtain ⟨n, rfl⟩ : ∃ n : Nat, v1 = n := ⟨v1.toNat, by omega⟩
            obtain ⟨h, rfl⟩ : ∃ h : Nat, a0 = h := ⟨a0.toNat, by omega⟩
            have hfm : ∀ j : Nat, j < n → up r1 77 39 (r1 77 36) 110 j = up c1 0 13 (c1 50 3) 55 j := fun j hj => by rw [up_ne (by omega), up_ne (by omega)]; exact b3 j (by omega)
            generalize up c1 0 13 (c1 50 3) = c2 at *
            generalize up r1 77 39 (r1 77 36) = r2 at *
            have RN := e_renew hN c2 h n 0 (by omega) (by omega)
            obtain ⟨c3, r3, v3, s1, s2, s3, s4, s5⟩ := r_sheet hN h0 (show r32 0 by unfold r32; omega) (show r32 (n : Int) by unfold r32; omega) QE.1.2.2.2.2.1
            have hc3 : c3 = fz (up (up c2 52 h 0) 53 h n) 54 (h * 40) n 0 := by
              unfold d_x7_sheet at s1
              rw [H7t h0 hh, bI_some, w32_1, if_neg (by decide), w32_0, if_neg (by decide), if_neg (by decide), if_neg (by decide), w32i (x := (n : Int)) (by omega) (by omega), if_neg (by omega), if_neg (by omega), RN, bV_some] at s1
              exact (Prod.mk.inj (Option.some.inj s1)).1.symm
            refine Two.vL RN ?_
            rw [← hc3]
            refine Two.cR s2 ?_
            have h52 : c3 52 h = 0 := by rw [hc3, fz_app, if_neg (by omega), up_ne (by omega), up_same]
            refine Two.mono (L_filmW (h := h) (n := n) (by omega) (by omega) c2 r2 n N c3 r3 0 (by omega) (by omega) s3 h52 s4 s5 (fun j hj => ?_)) (fun c4 r4 v4 q4 => QE.trans (QG.sheets QE.1 q4.1 q4.2.1 q4.2.2 0) _)
            rw [s5 110 j (by unfold mSh; omega), s4 55 j (by unfold cSh; omega)]
            exact hfm j hj
      · refine Two.cR (inf h2 (by unfold r32; omega) (by unfold r32; omega) hi) (Two.iR (by decide) ?_)
        rw [if_neg (show ¬ ((0 ≤ a1 ∧ a1 < 8) ∧ 0 ≤ a2 ∧ a2 ≤ 16) from fun z => hi z.2)]
        refine Two.eL (by decide) ?_
        exact Two.ret rfl (QG.refl H _)
    · refine Two.cR (S8f h1 hs) (Two.iR (by decide) ?_)
      rw [if_neg (show ¬ ((0 ≤ a1 ∧ a1 < 8) ∧ 0 ≤ a2 ∧ a2 ≤ 16) from fun z => hs z.1)]
      refine Two.eL (by decide) ?_
      exact Two.ret rfl (QG.refl H _)
  · refine Two.cR (H8f h0 hh) (Two.iR (by decide) ?_)
    refine Two.cL (H7f h0 hh) (Two.iL (by decide) ?_)
    exact Two.ret rfl (QG.refl H _)
