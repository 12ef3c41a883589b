theorem L_ask {t N : Nat} {T : St} {n : Nat} {A Hd P Q : St → Int → Int → Option Rs} (h2 : T2 t) (hN : 100 ≤ N) (IH : AH t T n Hd Q) : AH t T ((n + 1 : Nat) : Int) (d_x4_askHead N A Hd t) (d_x8_headAsked N P Q) := by
  intro c r p x x' y y' z H hp hx hx' hy hy' htd hf
  subst hx hx' hy hy'
  obtain ⟨q, hq, hq1, hz0, hz1⟩ := htd
  have hvq : VP T q ∧ T 19 q ≠ 0 := by
    rcases res_ok H.W hp with ⟨q', a1, a2, a3⟩ | a | a
    · have : q' = q := by omega
      rw [← this]
      exact ⟨a2, a3⟩
    · omega
    · omega
  obtain ⟨i, rfl⟩ : ∃ i : Nat, y' = i := ⟨y'.toNat, by omega⟩
  have hb : 26 ≤ t ∧ t ≤ 38 := by unfold T2 at h2; omega
  have hR := H.R
  unfold TR at hR
  have hR1 := hR.1
  have hi64 : i < 64 := by
    have := H.P hq1
    unfold TP at this
    omega
  have hpl : c (t + 1) q ≤ 64 := by
    have := H.P hq1
    unfold TP at this
    omega
  have e64 : ((q : Int) * 64 + (i : Int)).toNat = 64 * q + i := by omega
  have e64' : (64 * (q : Int) + (i : Int)).toNat = 64 * q + i := by omega
  have hM := H.M hq1 hi64
  unfold TM at hM
  obtain ⟨m1, m2, m3, m4⟩ := hM
  have mr : -24 ≤ c (t + 7) (64 * q + i) ∧ c (t + 7) (64 * q + i) ≤ 2 := by omega
  unfold d_x4_askHead d_x8_headAsked
  refine Two.cL (e_behind H.W H.ct hN hp) ?_
  refine Two.cR (e_follow H.W H.rt hN hp) ?_
  rw [hq]
  have hg1 : 0 ≤ w32 (q : Int) ∧ w32 (q : Int) < ((192 : Nat) : Int) := (by ((try simp (disch := omega) only [w32i, Int.toNat_natCast]) <;> omega))
  have hg : 0 ≤ w32 ((q : Int) * 64 + (i : Int)) ∧ w32 ((q : Int) * 64 + (i : Int)) < ((12288 : Nat) : Int) := (by ((try simp (disch := omega) only [w32i, Int.toNat_natCast]) <;> omega))
  have hg' : 0 ≤ w32 (64 * (q : Int) + (i : Int)) ∧ w32 (64 * (q : Int) + (i : Int)) < ((12288 : Nat) : Int) := (by ((try simp (disch := omega) only [w32i, Int.toNat_natCast]) <;> omega))
  clear m2
  by_cases hm0 : c (t + 7) (64 * q + i) = 0
  · -- untold
    (repeat (first | with_reducible refine Two.bdL ?_ | with_reducible refine Two.bdR ?_ | (with_reducible refine Two.iL ?_ ?_; · ((try simp (disch := omega) only [w32i, Int.toNat_natCast, e64, e64', m1]) <;> omega)) | (with_reducible refine Two.eL ?_ ?_; · ((try simp (disch := omega) only [w32i, Int.toNat_natCast, e64, e64', m1]) <;> omega)) | (with_reducible refine Two.iR ?_ ?_; · ((try simp (disch := omega) only [w32i, Int.toNat_natCast, e64, e64', m1]) <;> omega)) | (with_reducible refine Two.eR ?_ ?_; · ((try simp (disch := omega) only [w32i, Int.toNat_natCast, e64, e64', m1]) <;> omega)) | unfold d_x8_headAsked_42))
    by_cases hrun : c 50 3 < c 50 2
    · refine Two.cL ((e_run H).trans (if_pos hrun)) ?_
      obtain ⟨H1, M1, F1⟩ := U_run h2 H hrun (x := c 50 3 + 1) (y := r 77 36 + 1) rfl (by omega)
      have hmet : (up c 50 3 (c 50 3 + 1)) (t + 10) q = 1 := by rw [up_ne (by omega)]; exact H.met hq1 (by omega)
      (repeat (first | with_reducible refine Two.bdL ?_ | with_reducible refine Two.bdR ?_ | (with_reducible refine Two.iL ?_ ?_; · ((try simp (disch := omega) only [w32i, Int.toNat_natCast, e64, e64', up_ne, up_nj, up_same]) <;> omega)) | (with_reducible refine Two.eL ?_ ?_; · ((try simp (disch := omega) only [w32i, Int.toNat_natCast, e64, e64', up_ne, up_nj, up_same]) <;> omega)) | (with_reducible refine Two.iR ?_ ?_; · ((try simp (disch := omega) only [w32i, Int.toNat_natCast, e64, e64', up_ne, up_nj, up_same]) <;> omega)) | (with_reducible refine Two.eR ?_ ?_; · ((try simp (disch := omega) only [w32i, Int.toNat_natCast, e64, e64', up_ne, up_nj, up_same]) <;> omega))))
      rw [w32i (x := (q : Int) * 64 + (i : Int)) (by omega) (by omega), e64, w32i (x := 64 * (q : Int) + (i : Int)) (by omega) (by omega), e64', show w8 2 = 2 from rfl]
      generalize hc1 : up c 50 3 (c 50 3 + 1) = c1 at *
      generalize hr1 : up r 77 36 (r 77 36 + 1) = r1 at *
      have c1e : ∀ a k, a ≠ 50 → c1 a k = c a k := fun a k h => by rw [← hc1, up_ne h]
      have r1e : ∀ a k, a ≠ 77 → r1 a k = r a k := fun a k h => by rw [← hr1, up_ne h]
      have H2 : TI t T (up c1 (t + 7) (64 * q + i) 2) (up r1 91 (64 * q + i) 2) := by
        refine U_mark h2 H1 hq1 hi64 hmet (fun a k z1 z2 z3 => by rw [up_app, if_neg z1]) (fun a k z1 z2 => by rw [up_app, if_neg z1]) (by rw [up_same, up_same]) (by rw [up_same]; omega) (fun _ => by rw [c1e _ _ (by omega)]; omega) (fun z => by rw [up_same] at z; omega) ?_
        rw [up_same, up_ne (by omega), c1e (t + 7) _ (by omega), hm0]
        rfl
      have hf2 : (up c1 (t + 7) (64 * q + i) 2) 50 2 < (n : Int) + (up c1 (t + 7) (64 * q + i) 2) 50 3 := by
        rw [up_ne (by omega), up_ne (by omega), ← hc1, up_nj (by omega), up_same]
        omega
      have m2e : (up c1 (t + 7) (64 * q + i) 2) (t + 7) (64 * q + i) = 2 := up_same
      refine Two.call (L_head h2 hN IH H2 hvq.1 hvq.2 (by rw [up_ne (by omega), c1e _ _ (by omega)]; exact hz1) hf2) (fun c3 r3 v3 q3 => ?_)
      obtain ⟨H3, M3, F3, A3, V3⟩ := q3
      have g3 := A3.rng
      have hR3 : c3 50 1 = (t : Int) := H3.R.1
      have k3 : c3 (t + 7) (64 * q + i) = 2 := (M3.2.2.2.2 q i hq1 hi64).1.mp m2e
      have p3 : (i : Int) < c3 (t + 1) q := by
        have := M3.pl q hq1
        rw [up_ne (by omega), c1e _ _ (by omega)] at this
        omega
      have met3 : c3 (t + 10) q = 1 := H3.met hq1 (by omega)
      have F03 : Fm r r3 := F1.trans (Fm.trans ⟨fun a k _ => up_ne (by omega), fun k _ _ => up_ne (by omega)⟩ F3)
      by_cases hv6 : v3 = -6
      · (repeat (first | with_reducible refine Two.bdL ?_ | with_reducible refine Two.bdR ?_ | (with_reducible refine Two.iL ?_ ?_; · ((try simp (disch := omega) only [w32i, Int.toNat_natCast, e64, e64', up_ne, up_nj, up_same]) <;> omega)) | (with_reducible refine Two.eL ?_ ?_; · ((try simp (disch := omega) only [w32i, Int.toNat_natCast, e64, e64', up_ne, up_nj, up_same]) <;> omega)) | (with_reducible refine Two.iR ?_ ?_; · ((try simp (disch := omega) only [w32i, Int.toNat_natCast, e64, e64', up_ne, up_nj, up_same]) <;> omega)) | (with_reducible refine Two.eR ?_ ?_; · ((try simp (disch := omega) only [w32i, Int.toNat_natCast, e64, e64', up_ne, up_nj, up_same]) <;> omega)) | unfold d_x8_headAsked_135))
        rw [w32i (x := 64 * (q : Int) + (i : Int)) (by omega) (by omega), e64', show w8 0 = 0 from rfl]
        refine Two.ret (by omega) ⟨U_mark h2 H3 hq1 hi64 met3 (fun a k z1 z2 z3 => by rw [up_app, if_neg z1]) (fun a k z1 z2 => by rw [up_app, if_neg z2, up_app, if_neg z1]) (by rw [up_ne (by omega), up_same, up_same]) (by rw [up_same]; omega) (fun z => absurd up_same z) (fun z => by rw [up_same] at z; omega) ?_, M1.trans (Mo.head h2 hq1 hi64 (by rw [c1e _ _ (by omega)]; omega) (by rw [up_same]; omega) (fun a k h => by rw [up_app, if_neg h]) M3 (fun a k z1 z2 z3 z4 => by rw [up_app, if_neg z1])), F03.trans ⟨fun a k _ => by rw [up_ne (by omega), up_ne (by omega)], fun k _ _ => by rw [up_ne (by omega), up_ne (by omega)]⟩, Or.inr (Or.inl rfl), fun z => by omega⟩
        rw [up_same, up_ne (by omega), k3]
        rfl
      · have hw : w8 (w8 v3) = v3 := by rw [w8i (x := v3) (by omega) (by omega), w8i (x := v3) (by omega) (by omega)]
        have A3' := A3
        unfold AnH at A3'
        (repeat (first | with_reducible refine Two.bdL ?_ | with_reducible refine Two.bdR ?_ | (with_reducible refine Two.iL ?_ ?_; · ((try simp (disch := omega) only [w32i, Int.toNat_natCast, e64, e64', up_ne, up_nj, up_same]) <;> omega)) | (with_reducible refine Two.eL ?_ ?_; · ((try simp (disch := omega) only [w32i, Int.toNat_natCast, e64, e64', up_ne, up_nj, up_same]) <;> omega)) | (with_reducible refine Two.iR ?_ ?_; · ((try simp (disch := omega) only [w32i, Int.toNat_natCast, e64, e64', up_ne, up_nj, up_same]) <;> omega)) | (with_reducible refine Two.eR ?_ ?_; · ((try simp (disch := omega) only [w32i, Int.toNat_natCast, e64, e64', up_ne, up_nj, up_same]) <;> omega)) | unfold d_x8_headAsked_135 | unfold d_x4_askHead_160))
        rw [w32i (x := (q : Int) * 64 + (i : Int)) (by omega) (by omega), e64, w32i (x := 64 * (q : Int) + (i : Int)) (by omega) (by omega), e64', w32i (x := (q : Int)) (by omega) (by omega), Int.toNat_natCast, hw, show w8 0 = 0 from rfl]
        obtain ⟨c4, hc4⟩ : ∃ c4, c4 = up (up (up (up c3 (t + 7) (64 * q + i) 0) (t + 7) (64 * q + i) v3) (t + 8) (64 * q + i) (up (up c3 (t + 7) (64 * q + i) 0) (t + 7) (64 * q + i) v3 50 4)) (t + 2) q (up (up (up c3 (t + 7) (64 * q + i) 0) (t + 7) (64 * q + i) v3) (t + 8) (64 * q + i) (up (up c3 (t + 7) (64 * q + i) 0) (t + 7) (64 * q + i) v3 50 4) (t + 2) q + 1) := ⟨_, rfl⟩
        rw [← hc4]
        have x7 : c4 (t + 7) (64 * q + i) = v3 := by
          rw [hc4]
          simp (disch := omega) only [up_ne, up_same]
        have x8 : c4 (t + 8) (64 * q + i) = c3 50 4 := by
          rw [hc4]
          simp (disch := omega) only [up_ne, up_same]
        have x2 : c4 (t + 2) q = c3 (t + 2) q + 1 := by
          rw [hc4]
          simp (disch := omega) only [up_ne, up_same]
        have xo : ∀ a k, ¬ (a = t + 7 ∧ k = 64 * q + i) → ¬ (a = t + 8 ∧ k = 64 * q + i) → ¬ (a = t + 2 ∧ k = q) → c4 a k = c3 a k := by
          intro a k z1 z2 z3
          rw [hc4, up_app, if_neg z3, up_app, if_neg z2, up_app, if_neg z1, up_app, if_neg z1]
        obtain ⟨r4, hr4⟩ : ∃ r4, r4 = up (up r3 91 (64 * q + i) v3) 92 (64 * q + i) (up r3 91 (64 * q + i) v3 77 38) := ⟨_, rfl⟩
        rw [← hr4]
        have y1 : r4 91 (64 * q + i) = v3 := by rw [hr4, up_ne (by omega), up_same]
        have y2 : r4 92 (64 * q + i) = r3 77 38 := by rw [hr4, up_same, up_ne (by omega)]
        have yo : ∀ a k, ¬ (a = 91 ∧ k = 64 * q + i) → ¬ (a = 92 ∧ k = 64 * q + i) → r4 a k = r3 a k := by
          intro a k z1 z2
          rw [hr4, up_app, if_neg z2, up_app, if_neg z1]
        have H4 : TI t T c4 r4 := by
          refine U_mark h2 H3 hq1 hi64 met3 xo yo (by rw [y1, x7]) (by rw [x7]; omega) (fun _ => p3) (fun z => by rw [x7] at z; rw [y2, x8]; exact (V3 z).symm) ?_
          rw [x7, x2, k3, if_pos (Or.inr rfl), if_neg (by omega)]
          omega
        have u := U_valL h2 H4 (c4 (t + 8) (64 * q + i))
        have x7' : up c4 50 4 (c4 (t + 8) (64 * q + i)) (t + 7) (64 * q + i) = v3 := by rw [up_ne (by omega)]; exact x7
        refine Two.ret (by rw [x7']) ⟨u.1, M1.trans (Mo.head h2 hq1 hi64 (by rw [c1e _ _ (by omega)]; omega) (by rw [x7']; omega) (fun a k h => by rw [up_app, if_neg h]) M3 (fun a k z1 z2 z3 z4 => by rw [up_app, if_neg z4]; exact xo a k z1 z2 z3)), F03.trans ⟨fun a k _ => yo a k (by omega) (by omega), fun k _ _ => yo 77 k (by omega) (by omega)⟩, by rw [x7']; exact A3, fun z => ?_⟩
        rw [x7'] at z
        rw [up_same, x8, yo 77 38 (by omega) (by omega)]
        exact V3 z
    · refine Two.cL ((e_run H).trans (if_neg hrun)) ?_
      (repeat (first | with_reducible refine Two.bdL ?_ | with_reducible refine Two.bdR ?_ | (with_reducible refine Two.iL ?_ ?_; · ((try simp (disch := omega) only [w32i, Int.toNat_natCast]) <;> omega)) | (with_reducible refine Two.eL ?_ ?_; · ((try simp (disch := omega) only [w32i, Int.toNat_natCast]) <;> omega)) | (with_reducible refine Two.iR ?_ ?_; · ((try simp (disch := omega) only [w32i, Int.toNat_natCast]) <;> omega)) | (with_reducible refine Two.eR ?_ ?_; · ((try simp (disch := omega) only [w32i, Int.toNat_natCast]) <;> omega))))
      exact Two.ret rfl (QH.no H (by unfold AnH; omega) (by decide))
  · by_cases hm2 : c (t + 7) (64 * q + i) = 2
    · (repeat (first | with_reducible refine Two.bdL ?_ | with_reducible refine Two.bdR ?_ | (with_reducible refine Two.iL ?_ ?_; · ((try simp (disch := omega) only [w32i, Int.toNat_natCast, e64, e64', m1]) <;> omega)) | (with_reducible refine Two.eL ?_ ?_; · ((try simp (disch := omega) only [w32i, Int.toNat_natCast, e64, e64', m1]) <;> omega)) | (with_reducible refine Two.iR ?_ ?_; · ((try simp (disch := omega) only [w32i, Int.toNat_natCast, e64, e64', m1]) <;> omega)) | (with_reducible refine Two.eR ?_ ?_; · ((try simp (disch := omega) only [w32i, Int.toNat_natCast, e64, e64', m1]) <;> omega)) | unfold d_x8_headAsked_42))
      exact Two.ret rfl (QH.no H (by unfold AnH; omega) (by decide))
    · have hM := H.M hq1 hi64
      unfold TM at hM
      have m2 := hM.2.1
      by_cases hm1 : c (t + 7) (64 * q + i) = 1
      · clear m2 hM
        (repeat (first | with_reducible refine Two.bdL ?_ | with_reducible refine Two.bdR ?_ | (with_reducible refine Two.iL ?_ ?_; · ((try simp (disch := omega) only [w32i, Int.toNat_natCast, e64, e64', m1, up_ne, up_nj, up_same]) <;> omega)) | (with_reducible refine Two.eL ?_ ?_; · ((try simp (disch := omega) only [w32i, Int.toNat_natCast, e64, e64', m1, up_ne, up_nj, up_same]) <;> omega)) | (with_reducible refine Two.iR ?_ ?_; · ((try simp (disch := omega) only [w32i, Int.toNat_natCast, e64, e64', m1, up_ne, up_nj, up_same]) <;> omega)) | (with_reducible refine Two.eR ?_ ?_; · ((try simp (disch := omega) only [w32i, Int.toNat_natCast, e64, e64', m1, up_ne, up_nj, up_same]) <;> omega)) | unfold d_x8_headAsked_42 | unfold d_x4_askHead_160))
        rw [w32i (x := (q : Int) * 64 + (i : Int)) (by omega) (by omega), e64, w32i (x := 64 * (q : Int) + (i : Int)) (by omega) (by omega), e64']
        refine Two.ret (by rw [up_ne (by omega), up_ne (by omega)]; exact m1) ?_
        rw [up_ne (by omega), hm1]
        exact QH.val h2 H (m4 hm1).symm
      · clear m2 hM
        (repeat (first | with_reducible refine Two.bdL ?_ | with_reducible refine Two.bdR ?_ | (with_reducible refine Two.iL ?_ ?_; · ((try simp (disch := omega) only [w32i, Int.toNat_natCast, e64, e64', m1, up_ne, up_nj, up_same]) <;> omega)) | (with_reducible refine Two.eL ?_ ?_; · ((try simp (disch := omega) only [w32i, Int.toNat_natCast, e64, e64', m1, up_ne, up_nj, up_same]) <;> omega)) | (with_reducible refine Two.iR ?_ ?_; · ((try simp (disch := omega) only [w32i, Int.toNat_natCast, e64, e64', m1, up_ne, up_nj, up_same]) <;> omega)) | (with_reducible refine Two.eR ?_ ?_; · ((try simp (disch := omega) only [w32i, Int.toNat_natCast, e64, e64', m1, up_ne, up_nj, up_same]) <;> omega)) | unfold d_x8_headAsked_42 | unfold d_x4_askHead_160))
        rw [w32i (x := (q : Int) * 64 + (i : Int)) (by omega) (by omega), e64, w32i (x := 64 * (q : Int) + (i : Int)) (by omega) (by omega), e64']
        have u := U_valL h2 H (c (t + 8) (64 * q + i))
        have hM := H.M hq1 hi64
        unfold TM at hM
        refine Two.ret (by rw [up_ne (by omega)]; exact m1) ?_
        rw [up_ne (by omega)]
        exact ⟨u.1, u.2, Fm.refl, by unfold AnH; omega, fun z => absurd z hm1⟩
/-- a part that is over -/
theorem L_over {t N : Nat} {T c r : St} {A Hd P Q : St → Int → Int → Option Rs} (H : TI t T c r) {q m : Nat} (hq : q < 192) (hg : c (t + 3) q ≠ 1) {y n : Int} (hy : 0 ≤ y ∧ y < 64) (hn : 0 ≤ n ∧ n ≤ 200) (K : St → St → Int → Prop) (hK : ∀ v, An v → (v = 1 → y < c (t + 1) q) → K c r v) : Two (d_x4_askPlace_36L N A Hd t (m + 1) c y (q : Int) n) (d_x8_place_21L N P Q (m + 1) r y (q : Int)) K := by
  have hR1 : c 50 1 = (t : Int) := H.R.1
  have hP := H.P hq
  unfold TP at hP
  obtain ⟨a1, a2, a3, a4, a5, a6⟩ := hP
  have hg3 : -24 ≤ c (t + 3) q ∧ c (t + 3) q ≤ 1 := by omega
  have hr : r 87 q ≠ 0 := by omega
  have hr7 : -24 ≤ r 87 q ∧ r 87 q ≤ 1 := by omega
  have a4' := a4
  clear a4 a5 a6
  show Two (d_x4_askPlace_36 N A Hd t (d_x4_askPlace_36L N A Hd t m) c y q n) (d_x8_place_21 N P Q (d_x8_place_21L N P Q m) r y q) _
  have fin : Two (d_x4_askPlace_212 N A Hd t c y q) (d_x8_place_163 N P Q r y q) K := by
    unfold d_x4_askPlace_212 d_x8_place_163
    by_cases hl : y < c (t + 1) q
    · clear a4'
      (repeat (first | with_reducible refine Two.bdL ?_ | with_reducible refine Two.bdR ?_ | (with_reducible refine Two.iL ?_ ?_; · ((try simp (disch := omega) only [w32i, Int.toNat_natCast]) <;> omega)) | (with_reducible refine Two.eL ?_ ?_; · ((try simp (disch := omega) only [w32i, Int.toNat_natCast]) <;> omega)) | (with_reducible refine Two.iR ?_ ?_; · ((try simp (disch := omega) only [w32i, Int.toNat_natCast]) <;> omega)) | (with_reducible refine Two.eR ?_ ?_; · ((try simp (disch := omega) only [w32i, Int.toNat_natCast]) <;> omega))))
      exact Two.ret rfl (hK 1 (Or.inl rfl) (fun _ => hl))
    · by_cases h1 : r 87 q = 1
      · have e : c (t + 3) q = 0 := by omega
        clear a4'
        (repeat (first | with_reducible refine Two.bdL ?_ | with_reducible refine Two.bdR ?_ | (with_reducible refine Two.iL ?_ ?_; · ((try simp (disch := omega) only [w32i, Int.toNat_natCast]) <;> omega)) | (with_reducible refine Two.eL ?_ ?_; · ((try simp (disch := omega) only [w32i, Int.toNat_natCast]) <;> omega)) | (with_reducible refine Two.iR ?_ ?_; · ((try simp (disch := omega) only [w32i, Int.toNat_natCast]) <;> omega)) | (with_reducible refine Two.eR ?_ ?_; · ((try simp (disch := omega) only [w32i, Int.toNat_natCast]) <;> omega))))
        rw [w32i (x := (q : Int)) (by omega) (by omega), Int.toNat_natCast, e]
        exact Two.ret rfl (hK 0 (by unfold An; omega) (fun z => by omega))
      · have e : r 87 q = c (t + 3) q ∧ c (t + 3) q ≤ -21 := by omega
        clear a4'
        (repeat (first | with_reducible refine Two.bdL ?_ | with_reducible refine Two.bdR ?_ | (with_reducible refine Two.iL ?_ ?_; · ((try simp (disch := omega) only [w32i, Int.toNat_natCast]) <;> omega)) | (with_reducible refine Two.eL ?_ ?_; · ((try simp (disch := omega) only [w32i, Int.toNat_natCast]) <;> omega)) | (with_reducible refine Two.iR ?_ ?_; · ((try simp (disch := omega) only [w32i, Int.toNat_natCast]) <;> omega)) | (with_reducible refine Two.eR ?_ ?_; · ((try simp (disch := omega) only [w32i, Int.toNat_natCast]) <;> omega))))
        rw [w32i (x := (q : Int)) (by omega) (by omega), Int.toNat_natCast, e.1]
        exact Two.ret rfl (hK _ (by unfold An; omega) (fun z => by omega))
  clear a4'
  unfold d_x4_askPlace_36 d_x8_place_21
  by_cases hl : y < n
  · (repeat (first | with_reducible refine Two.bdL ?_ | with_reducible refine Two.bdR ?_ | (with_reducible refine Two.iL ?_ ?_; · ((try simp (disch := omega) only [w32i, Int.toNat_natCast]) <;> omega)) | (with_reducible refine Two.eL ?_ ?_; · ((try simp (disch := omega) only [w32i, Int.toNat_natCast]) <;> omega)) | (with_reducible refine Two.iR ?_ ?_; · ((try simp (disch := omega) only [w32i, Int.toNat_natCast]) <;> omega)) | (with_reducible refine Two.eR ?_ ?_; · ((try simp (disch := omega) only [w32i, Int.toNat_natCast]) <;> omega))))
    exact fin
  · (repeat (first | with_reducible refine Two.bdL ?_ | with_reducible refine Two.bdR ?_ | (with_reducible refine Two.iL ?_ ?_; · ((try simp (disch := omega) only [w32i, Int.toNat_natCast]) <;> omega)) | (with_reducible refine Two.eL ?_ ?_; · ((try simp (disch := omega) only [w32i, Int.toNat_natCast]) <;> omega)) | (with_reducible refine Two.iR ?_ ?_; · ((try simp (disch := omega) only [w32i, Int.toNat_natCast]) <;> omega)) | (with_reducible refine Two.eR ?_ ?_; · ((try simp (disch := omega) only [w32i, Int.toNat_natCast]) <;> omega))))
    exact fin
