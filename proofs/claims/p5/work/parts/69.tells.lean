def QO (t : Nat) (T c r : St) (c' r' : St) (v : Int) : Prop := TI t T c' r' ∧ Mo t 192 c c' ∧ Fm r r' ∧ An v ∧ (v = 1 → c' 50 4 = r' 77 38)
theorem L_out {t N : Nat} {T c r : St} (h2 : T2 t) (hN : 100 ≤ N) (H : TI t T c r) {s : Nat} (hs : s < 8) (hne : T 18 s ≠ 0) {y : Int} (hy : 0 ≤ y ∧ y ≤ 1000) : Two (d_x4_outcome N t c (s : Int) y) (d_x8_outcome N r (s : Int) y) (QO t T c r) := by
  have hv := VP.str H.W hs hne
  have hR := H.R
  unfold TR at hR
  unfold d_x4_outcome d_x8_outcome
  refine Two.call ((L_all h2 hN 110).1 c r (24 * s) _ _ _ _ y H hv (by omega) (by omega) rfl rfl hy.1 (by omega) (by omega)) (fun c1 r1 v1 q1 => ?_)
  obtain ⟨H1, M1, F1, A1, V1⟩ := q1
  have g1 := A1.rng
  by_cases hv1 : v1 = 1
  · refine Two.iL (by ((try simp (disch := omega) only [w32i, Int.toNat_natCast]) <;> omega)) (Two.iR (by ((try simp (disch := omega) only [w32i, Int.toNat_natCast]) <;> omega)) ?_)
    refine Two.tail (Two.mono ((L_all h2 hN 110).2 c1 r1 (24 * s) _ _ _ _ y H1 hv (by omega) (by omega) rfl rfl (V1 hv1) (M1.f (by omega))) (fun c2 r2 v2 q2 => ?_))
    obtain ⟨H2, M2, F2, A2, V2⟩ := q2
    exact ⟨H2, M1.trans M2, F1.trans F2, A2.an, V2⟩
  · refine Two.eL (by ((try simp (disch := omega) only [w32i, Int.toNat_natCast]) <;> omega)) (Two.eR (by ((try simp (disch := omega) only [w32i, Int.toNat_natCast]) <;> omega)) ?_)
    exact Two.ret rfl ⟨H1, M1, F1, A1, fun z => absurd z hv1⟩
theorem RG.p18 {c r : St} (H : RG c r) : ∀ a : Nat, a < 8 → (0 ≤ c 18 a ∧ c 18 a ≤ 24) ∧ r 78 a = c 18 a := by
  intro a ha
  have h := H.2.1.1.1.1 a ha
  rw [← tx_ct c r 18 a (by omega) (by omega), ← tx_rt c r 78 a (by omega) (by omega)] at h
  omega
theorem QO.refl {t : Nat} {T c r : St} (H : TI t T c r) {v : Int} (h : An v) (h1 : v ≠ 1) : QO t T c r c r v := ⟨H, Mo.refl, Fm.refl, h, fun z => absurd z h1⟩
theorem Rp {N : Nat} {s : St} {a0 a1 : Int} (h0 : r32 a0) (h1 : r32 a1) (g : ∀ a : Nat, a < 8 → 0 ≤ s 18 a ∧ s 18 a ≤ 24) : d_x7_refusedPlace N s a0 a1 = some (s, if (0 ≤ a0 ∧ a0 < 8) ∧ 0 ≤ a1 ∧ a1 ≤ 63 then (if s 18 a0.toNat = 0 then -3 else 0) else -2) := by
  unfold d_x7_refusedPlace
  rw [Rr h0 h1 (by unfold r32; omega) g]
  rfl
/-- is() -/
theorem r_is {N : Nat} (hN : 100 ≤ N) {c r : St} {a0 a1 : Int} (h0 : r32 a0) (h1 : r32 a1) (H : RG c r) : Two (d_x7_is N c a0 a1) (d_x8_is N r a0 a1) (fun c' r' v => QG c r c' r' v ∧ (v = 1 → c' 50 4 = r' 77 38) ∧ -100 ≤ v ∧ v ≤ 100) := by
  have hp := H.p18
  have hl := H.2.2.2.2.2.1
  unfold RLi at hl
  unfold d_x7_is d_x8_is
  refine Two.cL (Rp h0 h1 (fun a ha => (hp a ha).1)) ?_
  by_cases hs : 0 ≤ a0 ∧ a0 < 8
  · refine Two.cR (S8t h0 hs) (Two.eR (by decide) ?_)
    by_cases hi : 0 ≤ a1 ∧ a1 ≤ 63
    · refine Two.cR (int h1 (by unfold r32; omega) (by unfold r32; omega) hi) (Two.eR (by decide) ?_)
      obtain ⟨s, rfl⟩ : ∃ s : Nat, a0 = s := ⟨a0.toNat, by omega⟩
      have hps := hp s (by omega)
      rw [if_pos (show (0 ≤ (s : Int) ∧ (s : Int) < 8) ∧ 0 ≤ a1 ∧ a1 ≤ 63 from ⟨hs, hi⟩), Int.toNat_natCast]
      by_cases he : c 18 s = 0
      · rw [if_pos he]
        refine Two.eL (by decide) ?_
        (repeat (first | with_reducible refine Two.bdR ?_ | (with_reducible refine Two.iR ?_ ?_; · ((try simp (disch := omega) only [w32i, Int.toNat_natCast]) <;> omega)) | (with_reducible refine Two.eR ?_ ?_; · ((try simp (disch := omega) only [w32i, Int.toNat_natCast]) <;> omega))))
        exact Two.ret rfl ⟨QG.refl H _, fun z => by omega, by omega, by omega⟩
      · rw [if_neg he]
        refine Two.iL (by decide) ?_
        (repeat (first | with_reducible refine Two.bdR ?_ | (with_reducible refine Two.iR ?_ ?_; · ((try simp (disch := omega) only [w32i, Int.toNat_natCast]) <;> omega)) | (with_reducible refine Two.eR ?_ ?_; · ((try simp (disch := omega) only [w32i, Int.toNat_natCast]) <;> omega))))
        refine Two.vL (s := up (up (up c 50 1 ((26 : Nat) : Int)) 50 2 (c 0 12)) 50 3 0) (v := 0) rfl ?_
        refine Two.vR (s := up (up r 77 36 0) 77 37 (r 77 9)) (v := 0) rfl ?_
        refine Two.call (L_out (Or.inl rfl) hN (S_begin H hl.2 hl.1) (s := s) (by omega) (by rw [← tx_ct c r 18 s (by omega) (by omega)]; exact he) (y := a1) (by omega)) (fun c1 r1 v1 q1 => ?_)
        obtain ⟨H1, M1, F1, A1, V1⟩ := q1
        refine Two.cL (s := up c1 0 13 (c1 50 3)) (v := v1) rfl ?_
        refine Two.bdR ?_
        refine Two.ret rfl ⟨S_end H H1 M1 F1 v1, fun z => ?_, A1.rng⟩
        rw [up_ne (by omega), up_nj (by omega)]
        exact V1 z
    · refine Two.cR (inf h1 (by unfold r32; omega) (by unfold r32; omega) hi) (Two.iR (by decide) ?_)
      rw [if_neg (show ¬ ((0 ≤ a0 ∧ a0 < 8) ∧ 0 ≤ a1 ∧ a1 ≤ 63) from fun z => hi z.2)]
      refine Two.eL (by decide) ?_
      exact Two.ret rfl ⟨QG.refl H _, fun z => by omega, by omega, by omega⟩
  · refine Two.cR (S8f h0 hs) (Two.iR (by decide) ?_)
    rw [if_neg (show ¬ ((0 ≤ a0 ∧ a0 < 8) ∧ 0 ≤ a1 ∧ a1 ≤ 63) from fun z => hs z.1)]
    refine Two.eL (by decide) ?_
    exact Two.ret rfl ⟨QG.refl H _, fun z => by omega, by omega, by omega⟩
/-- there() -/
theorem r_there {N : Nat} (hN : 100 ≤ N) {c r : St} {a0 a1 : Int} (h0 : r32 a0) (h1 : r32 a1) (H : RG c r) : Two (d_x7_there N c a0 a1) (d_x8_there N r a0 a1) (QG c r) := by
  have hp := H.p18
  have hl := H.2.2.2.2.2.1
  unfold RLi at hl
  unfold d_x7_there d_x8_there
  refine Two.cL (Rp h0 h1 (fun a ha => (hp a ha).1)) ?_
  by_cases hs : 0 ≤ a0 ∧ a0 < 8
  · refine Two.cR (S8t h0 hs) (Two.eR (by decide) ?_)
    by_cases hi : 0 ≤ a1 ∧ a1 ≤ 63
    · refine Two.cR (int h1 (by unfold r32; omega) (by unfold r32; omega) hi) (Two.eR (by decide) ?_)
      obtain ⟨s, rfl⟩ : ∃ s : Nat, a0 = s := ⟨a0.toNat, by omega⟩
      have hps := hp s (by omega)
      rw [if_pos (show (0 ≤ (s : Int) ∧ (s : Int) < 8) ∧ 0 ≤ a1 ∧ a1 ≤ 63 from ⟨hs, hi⟩), Int.toNat_natCast]
      by_cases he : c 18 s = 0
      · rw [if_pos he]
        refine Two.eL (by decide) ?_
        (repeat (first | with_reducible refine Two.bdR ?_ | (with_reducible refine Two.iR ?_ ?_; · ((try simp (disch := omega) only [w32i, Int.toNat_natCast]) <;> omega)) | (with_reducible refine Two.eR ?_ ?_; · ((try simp (disch := omega) only [w32i, Int.toNat_natCast]) <;> omega))))
        exact Two.ret rfl (QG.refl H _)
      · rw [if_neg he]
        refine Two.iL (by decide) ?_
        (repeat (first | with_reducible refine Two.bdR ?_ | (with_reducible refine Two.iR ?_ ?_; · ((try simp (disch := omega) only [w32i, Int.toNat_natCast]) <;> omega)) | (with_reducible refine Two.eR ?_ ?_; · ((try simp (disch := omega) only [w32i, Int.toNat_natCast]) <;> omega))))
        refine Two.vL (s := up (up (up c 50 1 ((26 : Nat) : Int)) 50 2 (c 0 12)) 50 3 0) (v := 0) rfl ?_
        refine Two.vR (s := up (up r 77 36 0) 77 37 (r 77 9)) (v := 0) rfl ?_
        have HB := S_begin H hl.2 hl.1
        have hv := VP.str HB.W (s := s) (by omega) (by rw [← tx_ct c r 18 s (by omega) (by omega)]; exact he)
        unfold d_x4_isThere
        have hR := HB.R
        unfold TR at hR
        refine Two.call (Two.tailL ((L_all (Or.inl rfl) hN 110).1 _ _ (24 * s) _ _ _ _ a1 HB hv (by omega) (by omega) rfl rfl hi.1 (by omega) (by omega))) (fun c1 r1 v1 q1 => ?_)
        obtain ⟨H1, M1, F1, A1, V1⟩ := q1
        refine Two.cL (s := up c1 0 13 (c1 50 3)) (v := v1) rfl ?_
        refine Two.bdR ?_
        exact Two.ret rfl (S_end H H1 M1 F1 v1)
    · refine Two.cR (inf h1 (by unfold r32; omega) (by unfold r32; omega) hi) (Two.iR (by decide) ?_)
      rw [if_neg (show ¬ ((0 ≤ a0 ∧ a0 < 8) ∧ 0 ≤ a1 ∧ a1 ≤ 63) from fun z => hi z.2)]
      refine Two.eL (by decide) ?_
      exact Two.ret rfl (QG.refl H _)
  · refine Two.cR (S8f h0 hs) (Two.iR (by decide) ?_)
    rw [if_neg (show ¬ ((0 ≤ a0 ∧ a0 < 8) ∧ 0 ≤ a1 ∧ a1 ≤ 63) from fun z => hs z.1)]
    refine Two.eL (by decide) ?_
    exact Two.ret rfl (QG.refl H _)
theorem e_begin {N t : Nat} {s : St} {a : Int} : d_x4_begin N t s a = some (up (up (up s 50 1 (t : Int)) 50 2 a) 50 3 0, 0) := rfl
theorem e_head {N : Nat} {c : St} {a0 a1 : Int} (h0 : r32 a0) (h1 : r32 a1) (g : ∀ a : Nat, a < 8 → 0 ≤ c 18 a ∧ c 18 a ≤ 24) : d_x7_head N c a0 a1 = bI (d_x7_is N c a0 a1) fun s v => if w32 v = 1 then some (s, s 50 4) else some (s, -4611686018427387904) := by
  unfold d_x7_head d_x7_is
  rw [Rp h0 h1 g, bI_some, bI_some]
  have key : ∀ x : Int, (x = -2 ∨ x = -3 ∨ x = 0) → (if w32 x = 0 then bV (d_x4_begin N 26 c (c 0 12)) fun s3 => bI (d_x4_outcome N 26 s3 a0 a1) fun s5 v6 => bI (d_x7_counted N s5 v6) fun s7 v8 => (if (w32 v8) = 1 then some (s7, (s7 50 4)) else some (s7, (-4611686018427387904))) else some (c, (-4611686018427387904))) = bI (if w32 x = 0 then bV (d_x4_begin N 26 c (c 0 12)) fun s3 => bI (d_x4_outcome N 26 s3 a0 a1) fun s5 v6 => bI (d_x7_counted N s5 v6) fun s7 v8 => some (s7, v8) else some (c, x)) fun s v => if w32 v = 1 then some (s, s 50 4) else some (s, -4611686018427387904) := by
    intro x hx
    rw [w32i (x := x) (by omega) (by omega)]
    by_cases hz : x = 0
    · rw [if_pos hz, if_pos hz]
      rw [e_begin, bV_some, bV_some]
      cases d_x4_outcome N 26 (up (up (up c 50 1 ((26 : Nat) : Int)) 50 2 (c 0 12)) 50 3 0) a0 a1 with
      | none => rfl
      | some R => rfl
    · rw [if_neg hz, if_neg hz, bI_some, if_neg (by rw [w32i (x := x) (by omega) (by omega)]; omega)]
  refine key _ ?_
  by_cases z1 : (0 ≤ a0 ∧ a0 < 8) ∧ 0 ≤ a1 ∧ a1 ≤ 63
  · rw [if_pos z1]
    by_cases z2 : c 18 a0.toNat = 0
    · rw [if_pos z2]; omega
    · rw [if_neg z2]; omega
  · rw [if_neg z1]; omega
/-- head() -/
theorem r_head {N : Nat} (hN : 100 ≤ N) {c r : St} {a0 a1 : Int} (h0 : r32 a0) (h1 : r32 a1) (H : RG c r) : Two (d_x7_head N c a0 a1) (d_x8_head N r a0 a1) (QG c r) := by
  rw [e_head h0 h1 (fun a ha => (H.p18 a ha).1)]
  unfold d_x8_head
  refine Two.call (r_is hN h0 h1 H) (fun c1 r1 v1 q1 => ?_)
  have g := q1.2.2
  by_cases hv : v1 = 1
  · refine Two.iL (by ((try simp (disch := omega) only [w32i, Int.toNat_natCast]) <;> omega)) (Two.iR (by ((try simp (disch := omega) only [w32i, Int.toNat_natCast]) <;> omega)) ?_)
    exact Two.ret (q1.2.1 hv).symm q1.1
  · refine Two.eL (by ((try simp (disch := omega) only [w32i, Int.toNat_natCast]) <;> omega)) (Two.eR (by ((try simp (disch := omega) only [w32i, Int.toNat_natCast]) <;> omega)) ?_)
    exact Two.ret rfl q1.1
