theorem e_seeks {T c : St} {N q : Nat} (hc : ct c T) (W : WT T) (hq : VP T q) : d_x4_seeks N c (q : Int) = some (c, if T 19 q = 4 ∨ T 19 q = 11 then 1 else 0) := by
  have h1 := hq.1
  have w := (W.2 _ hq).1
  unfold d_x4_seeks d_x4_seeks_27
  rw [w32i (x := (q : Int)) (by omega) (by omega), Int.toNat_natCast, if_pos (by omega), hc 19 q (by omega) (by omega), w32i (x := T 19 q) (by omega) (by omega)]
  by_cases h4 : T 19 q = 4
  · rw [if_pos h4, if_pos (Or.inl h4)]
  · rw [if_neg h4, if_pos (by omega)]
    by_cases h11 : T 19 q = 11
    · rw [if_pos h11, if_pos (Or.inr h11)]
    · rw [if_neg h11, if_neg (by omega)]
theorem L_placeL {t N : Nat} {T : St} {n' : Nat} {A Hd P Q : St → Int → Int → Option Rs} (h2 : T2 t) (hN : 100 ≤ N) (IHp : AP t T n' A P) (IH : AH t T n' Hd Q) {q : Nat} (hq : VP T q) (hk0 : T 19 q ≠ 0) {y : Int} (hy : 0 ≤ y ∧ y < 64) (c0 r0 : St) :
    ∀ (k m : Nat) (c r : St) (n : Int), 64 - c (t + 1) q ≤ k → k + 2 ≤ m → TI t T c r → (c (t + 3) q = 1 → n = c (t + 1) q) → 0 ≤ n ∧ n ≤ 200 → Mo t 192 c0 c → Fm r0 r → c 50 2 < ((n' + 1 : Nat) : Int) + c 50 3 →
      Two (d_x4_askPlace_36L N A Hd t m c y (q : Int) n) (d_x8_place_21L N P Q m r y (q : Int)) (fun c' r' v => TI t T c' r' ∧ Mo t 192 c0 c' ∧ Fm r0 r' ∧ An v ∧ (v = 1 → y < c' (t + 1) q)) := by
  intro k
  have hq1 := hq.1
  have hb : 26 ≤ t ∧ t ≤ 38 := by unfold T2 at h2; omega
  induction k with
  | zero =>
    intro m c r n hk hm H hn hn2 M F hf
    obtain ⟨m, rfl⟩ : ∃ m', m = m' + 1 := ⟨m - 1, by omega⟩
    by_cases hg : c (t + 3) q = 1
    · have hP := H.P hq1
      unfold TP at hP
      have hR1 : c 50 1 = (t : Int) := H.R.1
      have e1 := hn hg
      have e2 : r 87 q = 0 := by omega
      have e3 := hP.1
      have e4 := hP.2.2.1
      clear hP
      show Two (d_x4_askPlace_36 N A Hd t (d_x4_askPlace_36L N A Hd t m) c y q n) (d_x8_place_21 N P Q (d_x8_place_21L N P Q m) r y q) _
      unfold d_x4_askPlace_36 d_x8_place_21
      (repeat (first | with_reducible refine Two.bdL ?_ | with_reducible refine Two.bdR ?_ | (with_reducible refine Two.iL ?_ ?_; · ((try simp (disch := omega) only [w32i, Int.toNat_natCast]) <;> omega)) | (with_reducible refine Two.eL ?_ ?_; · ((try simp (disch := omega) only [w32i, Int.toNat_natCast]) <;> omega)) | (with_reducible refine Two.iR ?_ ?_; · ((try simp (disch := omega) only [w32i, Int.toNat_natCast]) <;> omega)) | (with_reducible refine Two.eR ?_ ?_; · ((try simp (disch := omega) only [w32i, Int.toNat_natCast]) <;> omega)) | unfold d_x4_askPlace_212 | unfold d_x8_place_163))
      exact Two.ret rfl ⟨H, M, F, Or.inl rfl, fun _ => by omega⟩
    · exact L_over H hq1 hg hy hn2 _ (fun v a b => ⟨H, M, F, a, b⟩)
  | succ k ih =>
    intro m c r n hk hm H hn hn2 M F hf
    obtain ⟨m, rfl⟩ : ∃ m', m = m' + 1 := ⟨m - 1, by omega⟩
    by_cases hg : c (t + 3) q = 1
    · have hP := H.P hq1
      unfold TP at hP
      have hR := H.R
      unfold TR at hR
      have hR1 := hR.1
      have e1 := hn hg
      have e2 : r 87 q = 0 := by omega
      have e3 := hP.1
      have e4 := hP.2.2.1
      have e5 := hP.2.2.2.2.1
      have e6 := hP.2.2.2.2.2
      clear hP
      show Two (d_x4_askPlace_36 N A Hd t (d_x4_askPlace_36L N A Hd t m) c y q n) (d_x8_place_21 N P Q (d_x8_place_21L N P Q m) r y q) _
      unfold d_x4_askPlace_36 d_x8_place_21
      by_cases hl : y < n
      · clear e6
        (repeat (first | with_reducible refine Two.bdL ?_ | with_reducible refine Two.bdR ?_ | (with_reducible refine Two.iL ?_ ?_; · ((try simp (disch := omega) only [w32i, Int.toNat_natCast]) <;> omega)) | (with_reducible refine Two.eL ?_ ?_; · ((try simp (disch := omega) only [w32i, Int.toNat_natCast]) <;> omega)) | (with_reducible refine Two.iR ?_ ?_; · ((try simp (disch := omega) only [w32i, Int.toNat_natCast]) <;> omega)) | (with_reducible refine Two.eR ?_ ?_; · ((try simp (disch := omega) only [w32i, Int.toNat_natCast]) <;> omega)) | unfold d_x4_askPlace_212 | unfold d_x8_place_163))
        exact Two.ret rfl ⟨H, M, F, Or.inl rfl, fun _ => by omega⟩
      · by_cases htl : c (t + 4) q = 0
        · clear e6
          by_cases hrun : c 50 3 < c 50 2
          · (repeat (first | with_reducible refine Two.bdL ?_ | with_reducible refine Two.bdR ?_ | (with_reducible refine Two.iL ?_ ?_; · ((try simp (disch := omega) only [w32i, Int.toNat_natCast]) <;> omega)) | (with_reducible refine Two.eL ?_ ?_; · ((try simp (disch := omega) only [w32i, Int.toNat_natCast]) <;> omega)) | (with_reducible refine Two.iR ?_ ?_; · ((try simp (disch := omega) only [w32i, Int.toNat_natCast]) <;> omega)) | (with_reducible refine Two.eR ?_ ?_; · ((try simp (disch := omega) only [w32i, Int.toNat_natCast]) <;> omega))))
            refine Two.cL ((e_run H).trans (if_pos hrun)) ?_
            obtain ⟨H1, M1, F1⟩ := U_run h2 H hrun (x := c 50 3 + 1) (y := r 77 36 + 1) rfl (by omega)
            have c1e : ∀ a k, a ≠ 50 → (up c 50 3 (c 50 3 + 1)) a k = c a k := fun a k h => up_ne h
            have c12 : (up c 50 3 (c 50 3 + 1)) 50 2 = c 50 2 := up_nj (by omega)
            have c13 : (up c 50 3 (c 50 3 + 1)) 50 3 = c 50 3 + 1 := up_same
            have r16 : ∀ a k, a ≠ 77 → (up r 77 36 (r 77 36 + 1)) a k = r a k := fun a k h => up_ne h
            generalize up c 50 3 (c 50 3 + 1) = c1 at *
            generalize up r 77 36 (r 77 36 + 1) = r1 at *
            have hR1' : c1 50 1 = (t : Int) := H1.R.1
            refine Two.eL (by decide) (Two.iL hR1' ?_)
            obtain ⟨c2, m1, H2, M2, m4, m5⟩ := U_meet h2 H1 N hq
            refine Two.vL m1 ?_
            have hR2 : c2 50 1 = (t : Int) := H2.R.1
            refine Two.iL hR2 (Two.iL (by ((try simp (disch := omega) only [w32i, Int.toNat_natCast]) <;> omega)) (Two.bdL ?_))
            rw [w32i (x := (q : Int)) (by omega) (by omega), Int.toNat_natCast, and11, and01]
            have H3 := U_tell h2 H2 hq1 m4
            have c3e : ∀ a k, ¬ (a = t + 4 ∧ k = q) → (up c2 (t + 4) q 1) a k = c2 a k := fun a k h => by rw [up_app, if_neg h]
            have c3t : (up c2 (t + 4) q 1) (t + 4) q = 1 := up_same
            have r3e : ∀ a k, ¬ (a = 88 ∧ k = q) → (up r1 88 q 1) a k = r1 a k := fun a k h => by rw [up_app, if_neg h]
            generalize up c2 (t + 4) q 1 = c3 at *
            generalize up r1 88 q 1 = r3 at *
            obtain ⟨i, hi⟩ : ∃ i : Nat, c (t + 1) q = i := ⟨n.toNat, by omega⟩
            have hi64 : i < 64 := by omega
            have pl3 : c3 (t + 1) q = i := by rw [c3e _ _ (by omega), m5 _ _ (by omega) (by omega) (by omega), c1e _ _ (by omega)]; exact hi
            have g3 : c3 (t + 3) q = 1 := by rw [c3e _ _ (by omega), m5 _ _ (by omega) (by omega) (by omega), c1e _ _ (by omega)]; exact hg
            have r386 : r3 86 q = i := by rw [r3e _ _ (by omega), r16 _ _ (by omega), e3]; exact hi
            have nx3 : NX t T c3 q i := by
              have a := (H.N hq).1 htl
              rw [hi] at a
              unfold NX at *
              rw [c3e _ _ (by omega), m5 _ _ (by omega) (by omega) (by omega), c1e _ _ (by omega)]
              refine fun z => ⟨(a z).1, fun j hj => ?_⟩
              rw [c3e _ _ (by omega), m5 _ _ (by omega) (by omega) (by omega), c1e _ _ (by omega)]
              exact (a z).2 j hj
            have f3 : c3 50 2 < (n' : Int) + c3 50 3 := by
              have a := (M2.2.1 2 (by omega) (by omega))
              have b := M2.2.2.1
              rw [c3e _ _ (by omega), c3e _ _ (by omega), a, c12]
              omega
            have F3 : Fm r r3 := F1.trans ⟨fun a k _ => r3e a k (by omega), fun k _ _ => r3e 77 k (by omega)⟩
            have tl2 : c2 (t + 4) q = 0 := by rw [m5 _ _ (by omega) (by omega) (by omega), c1e _ _ (by omega)]; exact htl
            have n_i : n = i := by omega
            subst n_i
            rw [r386]
            have cont : ∀ X, Two X (d_x8_tellsPlace N P Q r3 (q : Int) (i : Int)) (QT t T c3 r3 q i) → Two (bI X (fun s14 v15 => d_x4_askPlace_153 N A Hd t (d_x4_askPlace_36L N A Hd t m) s14 y (q : Int) (i : Int) v15)) (bI (d_x8_tellsPlace N P Q r3 (q : Int) (i : Int)) fun s5 v6 => if 0 ≤ (q : Int) ∧ (q : Int) < ((192 : Nat) : Int) then bd (up s5 88 q 0) fun s7 => (if (w32 v6) = (-6) then some (s7, (-6)) else if 0 ≤ (q : Int) ∧ (q : Int) < ((192 : Nat) : Int) then (if (w32 v6) = 1 then d_x8_place_131 N P Q (d_x8_place_21L N P Q m) s7 y (q : Int) v6 1 (s7 86 q) (q : Int) else d_x8_place_131 N P Q (d_x8_place_21L N P Q m) s7 y (q : Int) v6 0 (s7 86 q) (q : Int)) else none) else none) (fun c' r' v => TI t T c' r' ∧ Mo t 192 c0 c' ∧ Fm r0 r' ∧ An v ∧ (v = 1 → y < c' (t + 1) q)) := by
              intro X hX
              refine Two.call hX (fun c4 r4 v4 q4 => ?_)
              obtain ⟨H4, M4, F4, A4, V4, V4'⟩ := q4
              have g4 := A4.rng
              have hR4 : c4 50 1 = (t : Int) := H4.R.1
              have mm := (M4.2.2.2.1 q hq1)
              have tl4 : c4 (t + 4) q = 1 := by rw [mm.2.1]; exact c3t
              have pl4 : c4 (t + 1) q = i := by rw [(mm.2.2.2 c3t).1]; exact pl3
              have go4 : c4 (t + 3) q = 1 := by rw [(mm.2.2.2 c3t).2.1]; exact g3
              have met4 : c4 (t + 10) q = 1 := H4.met hq1 (Or.inl tl4)
              have r486 : r4 86 q = i := by
                have := (H4.P hq1).1
                rw [this]; exact pl4
              have M02 : Mo t 192 c0 c2 := M.trans (M1.trans M2)
              have F04 : Fm r0 r4 := F.trans (F3.trans F4)
              have f4 : c4 50 2 < ((n' + 1 : Nat) : Int) + c4 50 3 := by
                have := M4.f f3
                omega
              unfold d_x4_askPlace_153
              have w88 : ∀ a k, a ≠ 88 → up r4 88 q 0 a k = r4 a k := fun a k h => up_ne h
              refine Two.iL hR4 (Two.iL (by ((try simp (disch := omega) only [w32i, Int.toNat_natCast]) <;> omega)) (Two.bdL ?_))
              refine Two.iR (by omega) (Two.bdR ?_)
              rw [w32i (x := (q : Int)) (by omega) (by omega), Int.toNat_natCast, and01]
              by_cases h6 : v4 = -6
              · refine Two.iL (by ((try simp (disch := omega) only [w32i, Int.toNat_natCast]) <;> omega)) (Two.iR (by ((try simp (disch := omega) only [w32i, Int.toNat_natCast]) <;> omega)) ?_)
                have H5 := U_dear h2 H4 hq1 met4 (by rw [pl4]; exact V4' (by omega))
                refine Two.ret rfl ⟨H5, M02.trans (Mo.place h2 hq1 tl2 c3e M4 (fun a k z1 z2 z3 => by rw [up_app, if_neg z1]) up_same (by rw [up_ne (by omega)]; exact Int.le_refl _)), F04.trans ⟨fun a k _ => up_ne (by omega), fun k _ _ => up_ne (by omega)⟩, by unfold An; omega, fun z => by omega⟩
              · by_cases h1 : v4 = 1
                · refine Two.eL (by ((try simp (disch := omega) only [w32i, Int.toNat_natCast]) <;> omega)) (Two.eR (by ((try simp (disch := omega) only [w32i, Int.toNat_natCast]) <;> omega)) ?_)
                  refine Two.iL (by ((try simp (disch := omega) only [w32i, Int.toNat_natCast]) <;> omega)) (Two.iR (by omega) (Two.iR (by ((try simp (disch := omega) only [w32i, Int.toNat_natCast]) <;> omega)) ?_))
                  have hR5 : up c4 (t + 4) q 0 50 1 = (t : Int) := by rw [up_ne (by omega)]; exact hR4
                  refine Two.iL hR5 (Two.iL (by omega) (Two.iL (by omega) (Two.bdL ?_)))
                  unfold d_x8_place_131
                  refine Two.iR (by ((try simp (disch := omega) only [w32i, Int.toNat_natCast]) <;> omega)) (Two.bdR (Two.iR (by ((try simp (disch := omega) only [w32i, Int.toNat_natCast]) <;> omega)) ?_))
                  unfold d_x8_place_159 d_x4_askPlace_206
                  refine Two.iR (by ((try simp (disch := omega) only [w32i, Int.toNat_natCast]) <;> omega)) (Two.bdR (Two.bdL ?_))
                  rw [w32i (x := (q : Int)) (by omega) (by omega), Int.toNat_natCast, w88 86 q (by omega), r486, up_ne (a := t + 4) (b := t + 1) (by omega), pl4]
                  obtain ⟨b1, b2, b3⟩ := V4 h1
                  have H5 := U_more h2 H4 hq met4 pl4 hi64 go4 b3 b1 b2 (x := (i : Int) + 1) (y := (i : Int) + 1) rfl rfl
                  have M5 : Mo t 192 c2 (up (up c4 (t + 4) q 0) (t + 1) q ((i : Int) + 1)) := Mo.place h2 hq1 tl2 c3e M4 (fun a k z1 z2 z3 => by rw [up_app, if_neg z2, up_app, if_neg z1]) (by rw [up_ne (by omega), up_same]) (by rw [up_same]; omega)
                  refine ih m _ _ ((i : Int) + 1) ?_ (by omega) H5 (fun _ => by rw [up_same]) (by omega) (M02.trans M5) (F04.trans ⟨fun a k _ => by rw [up_ne (by omega), up_ne (by omega), up_ne (by omega)], fun k _ _ => by rw [up_ne (by omega), up_ne (by omega), up_ne (by omega)]⟩) (by rw [up_ne (by omega), up_ne (by omega), up_ne (by omega), up_ne (by omega)]; exact f4)
                  rw [up_same]
                  omega
                · refine Two.eL (by ((try simp (disch := omega) only [w32i, Int.toNat_natCast]) <;> omega)) (Two.eR (by ((try simp (disch := omega) only [w32i, Int.toNat_natCast]) <;> omega)) ?_)
                  refine Two.eL (by ((try simp (disch := omega) only [w32i, Int.toNat_natCast]) <;> omega)) (Two.iR (by omega) (Two.eR (by ((try simp (disch := omega) only [w32i, Int.toNat_natCast]) <;> omega)) ?_))
                  have hR5 : up c4 (t + 4) q 0 50 1 = (t : Int) := by rw [up_ne (by omega)]; exact hR4
                  refine Two.iL hR5 (Two.iL (by omega) (Two.bdL ?_))
                  unfold d_x8_place_131
                  refine Two.iR (by ((try simp (disch := omega) only [w32i, Int.toNat_natCast]) <;> omega)) (Two.bdR (Two.eR (by ((try simp (disch := omega) only [w32i, Int.toNat_natCast]) <;> omega)) ?_))
                  unfold d_x8_place_159 d_x4_askPlace_206
                  obtain ⟨m, rfl⟩ : ∃ m', m = m' + 1 := ⟨m - 1, by omega⟩
                  have H5 := U_dear h2 H4 hq1 met4 (by rw [pl4]; exact V4' (by omega))
                  have met5 : up c4 (t + 4) q 0 (t + 10) q = 1 := by rw [up_ne (by omega)]; exact met4
                  have A4' := A4
                  unfold An at A4'
                  have M5 : Mo t 192 c2 (up (up c4 (t + 4) q 0) (t + 3) q v4) := Mo.place h2 hq1 tl2 c3e M4 (fun a k z1 z2 z3 => by rw [up_app, if_neg z3, up_app, if_neg z1]) (by rw [up_ne (by omega), up_same]) (by rw [up_ne (by omega), up_ne (by omega)]; exact Int.le_refl _)
                  by_cases h0 : v4 = 0
                  · refine Two.iR (by ((try simp (disch := omega) only [w32i, Int.toNat_natCast]) <;> omega)) (Two.iR (by ((try simp (disch := omega) only [w32i, Int.toNat_natCast]) <;> omega)) (Two.bdR (Two.bdL ?_)))
                    rw [w32i (x := (q : Int)) (by omega) (by omega), Int.toNat_natCast]
                    have H6 := U_over h2 H5 hq1 met5 (v := v4) (w := 1) (x := up r4 88 q 0 86 q + 0) (Or.inl ⟨h0, rfl⟩) (by omega)
                    exact L_over H6 hq1 (by rw [up_same]; omega) hy (by omega) _ (fun v a b => ⟨H6, M02.trans M5, F04.trans ⟨fun a k _ => by rw [up_ne (by omega), up_ne (by omega), up_ne (by omega)], fun k _ _ => by rw [up_ne (by omega), up_ne (by omega), up_ne (by omega)]⟩, a, b⟩)
                  · refine Two.eR (by ((try simp (disch := omega) only [w32i, Int.toNat_natCast]) <;> omega)) (Two.iR (by ((try simp (disch := omega) only [w32i, Int.toNat_natCast]) <;> omega)) (Two.bdR (Two.bdL ?_)))
                    rw [w32i (x := (q : Int)) (by omega) (by omega), Int.toNat_natCast]
                    have H6 := U_over h2 H5 hq1 met5 (v := v4) (w := v4) (x := up r4 88 q 0 86 q + 0) (Or.inr ⟨by omega, by omega, rfl⟩) (by omega)
                    exact L_over H6 hq1 (by rw [up_same]; omega) hy (by omega) _ (fun v a b => ⟨H6, M02.trans M5, F04.trans ⟨fun a k _ => by rw [up_ne (by omega), up_ne (by omega), up_ne (by omega)], fun k _ _ => by rw [up_ne (by omega), up_ne (by omega), up_ne (by omega)]⟩, a, b⟩)
            have k19 := H3.ct 19 q (by omega) (by omega)
            have w1 := (H3.W.2 q hq).1
            refine Two.cL (e_seeks H3.ct H3.W hq) ?_
            by_cases hs : T 19 q = 4 ∨ T 19 q = 11
            · rw [if_pos hs]
              refine Two.eL (by decide) ?_
              exact cont _ (L_seek h2 hN IHp IH H3 hq hs hi64 pl3 c3t nx3 f3)
            · rw [if_neg hs]
              refine Two.iL (by decide) (Two.iL (by omega) ?_)
              by_cases hs7 : T 19 q = 7
              · refine Two.iL (by ((try simp (disch := omega) only [w32i, Int.toNat_natCast]) <;> omega)) ?_
                exact cont _ (L_merge h2 IHp IH H3 hq hs7 hi64 pl3 c3t f3)
              · refine Two.eL (by ((try simp (disch := omega) only [w32i, Int.toNat_natCast]) <;> omega)) ?_
                exact cont _ (L_tell hN IHp IH H3 hq hk0 (fun z => hs (Or.inl z)) hs7 (fun z => hs (Or.inr z)) hi64 f3)
          · (repeat (first | with_reducible refine Two.bdL ?_ | with_reducible refine Two.bdR ?_ | (with_reducible refine Two.iL ?_ ?_; · ((try simp (disch := omega) only [w32i, Int.toNat_natCast]) <;> omega)) | (with_reducible refine Two.eL ?_ ?_; · ((try simp (disch := omega) only [w32i, Int.toNat_natCast]) <;> omega)) | (with_reducible refine Two.iR ?_ ?_; · ((try simp (disch := omega) only [w32i, Int.toNat_natCast]) <;> omega)) | (with_reducible refine Two.eR ?_ ?_; · ((try simp (disch := omega) only [w32i, Int.toNat_natCast]) <;> omega))))
            refine Two.cL ((e_run H).trans (if_neg hrun)) ?_
            (repeat (first | with_reducible refine Two.bdL ?_ | with_reducible refine Two.bdR ?_ | (with_reducible refine Two.iL ?_ ?_; · ((try simp (disch := omega) only [w32i, Int.toNat_natCast]) <;> omega)) | (with_reducible refine Two.eL ?_ ?_; · ((try simp (disch := omega) only [w32i, Int.toNat_natCast]) <;> omega)) | (with_reducible refine Two.iR ?_ ?_; · ((try simp (disch := omega) only [w32i, Int.toNat_natCast]) <;> omega)) | (with_reducible refine Two.eR ?_ ?_; · ((try simp (disch := omega) only [w32i, Int.toNat_natCast]) <;> omega))))
            exact Two.ret rfl ⟨H, M, F, by unfold An; omega, fun z => by omega⟩
        · have e7 : c (t + 4) q = 1 := by omega
          clear e6
          (repeat (first | with_reducible refine Two.bdL ?_ | with_reducible refine Two.bdR ?_ | (with_reducible refine Two.iL ?_ ?_; · ((try simp (disch := omega) only [w32i, Int.toNat_natCast]) <;> omega)) | (with_reducible refine Two.eL ?_ ?_; · ((try simp (disch := omega) only [w32i, Int.toNat_natCast]) <;> omega)) | (with_reducible refine Two.iR ?_ ?_; · ((try simp (disch := omega) only [w32i, Int.toNat_natCast]) <;> omega)) | (with_reducible refine Two.eR ?_ ?_; · ((try simp (disch := omega) only [w32i, Int.toNat_natCast]) <;> omega))))
          exact Two.ret rfl ⟨H, M, F, by unfold An; omega, fun z => by omega⟩
    · exact L_over H hq1 hg hy hn2 _ (fun v a b => ⟨H, M, F, a, b⟩)
theorem L_place {t N : Nat} {T : St} {n : Nat} {A Hd P Q : St → Int → Int → Option Rs} (h2 : T2 t) (hN : 100 ≤ N) (IHp : AP t T n A P) (IH : AH t T n Hd Q) : AP t T ((n + 1 : Nat) : Int) (d_x4_askPlace N A Hd t) (d_x8_place N P Q) := by
  intro c r p x x' y y' z H hp hx hx' hy hy' hz0 hz1 hf
  subst hx hx' hy hy'
  unfold d_x4_askPlace d_x8_place
  refine Two.cL (e_behind H.W H.ct hN hp) ?_
  refine Two.cR (e_follow H.W H.rt hN hp) ?_
  rcases res_ok H.W hp with ⟨q, a1, a2, a3⟩ | a | a
  · rw [a1]
    have hq1 := a2.1
    by_cases h64 : y' < 64
    · have hR1 : c 50 1 = (t : Int) := H.R.1
      (repeat (first | with_reducible refine Two.bdL ?_ | with_reducible refine Two.bdR ?_ | (with_reducible refine Two.iL ?_ ?_; · ((try simp (disch := omega) only [w32i, Int.toNat_natCast]) <;> omega)) | (with_reducible refine Two.eL ?_ ?_; · ((try simp (disch := omega) only [w32i, Int.toNat_natCast]) <;> omega)) | (with_reducible refine Two.iR ?_ ?_; · ((try simp (disch := omega) only [w32i, Int.toNat_natCast]) <;> omega)) | (with_reducible refine Two.eR ?_ ?_; · ((try simp (disch := omega) only [w32i, Int.toNat_natCast]) <;> omega))))
      rw [w32i (x := (q : Int)) (by omega) (by omega), Int.toNat_natCast]
      have hP := H.P hq1
      unfold TP at hP
      refine Two.mono (L_placeL h2 hN IHp IH a2 a3 ⟨hz0, h64⟩ c r 64 N c r (c (t + 1) q) (by omega) (by omega) H (fun _ => rfl) (by omega) Mo.refl Fm.refl hf) (fun c' r' v w => ?_)
      exact ⟨w.1, w.2.1, w.2.2.1, w.2.2.2.1, fun z => ⟨q, a1, hq1, hz0, w.2.2.2.2 z⟩⟩
    · (repeat (first | with_reducible refine Two.bdL ?_ | with_reducible refine Two.bdR ?_ | (with_reducible refine Two.iL ?_ ?_; · ((try simp (disch := omega) only [w32i, Int.toNat_natCast]) <;> omega)) | (with_reducible refine Two.eL ?_ ?_; · ((try simp (disch := omega) only [w32i, Int.toNat_natCast]) <;> omega)) | (with_reducible refine Two.iR ?_ ?_; · ((try simp (disch := omega) only [w32i, Int.toNat_natCast]) <;> omega)) | (with_reducible refine Two.eR ?_ ?_; · ((try simp (disch := omega) only [w32i, Int.toNat_natCast]) <;> omega))))
      exact Two.ret rfl ⟨H, Mo.refl, Fm.refl, by unfold An; omega, fun z => by omega⟩
  · rw [a]
    refine Two.iL (by decide) (Two.iR (by decide) ?_)
    exact Two.ret rfl ⟨H, Mo.refl, Fm.refl, by unfold An; omega, fun z => by omega⟩
  · rw [a]
    refine Two.iL (by decide) (Two.iR (by decide) ?_)
    exact Two.ret rfl ⟨H, Mo.refl, Fm.refl, by unfold An; omega, fun z => by omega⟩
/-- class and model tell alike -/
theorem L_all {t N : Nat} {T : St} (h2 : T2 t) (hN : 100 ≤ N) : ∀ n : Nat, AP t T n (gc N t n).1 (gm N n).1 ∧ AH t T n (gc N t n).2 (gm N n).2 := by
  intro n
  induction n with
  | zero =>
    refine ⟨fun c r p x x' y y' z H _ _ _ _ _ _ _ hf => ?_, fun c r p x x' y y' z H _ _ _ _ _ _ hf => ?_⟩
    · have hR := H.R
      unfold TR at hR
      omega
    · have hR := H.R
      unfold TR at hR
      omega
  | succ n ih => exact ⟨L_place h2 hN ih.1 ih.2, L_ask h2 hN ih.2⟩
