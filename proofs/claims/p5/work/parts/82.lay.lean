theorem XT.lay {T T' : St} (X : XT T) {s n : Nat} (hs : s < 8) (hn : 1 ≤ n ∧ n ≤ 8)
    (e1 : T' 18 s = 1 ∧ T' 78 s = 1 ∧ T' 19 (24 * s) = 2 ∧ T' 79 (24 * s) = 2 ∧ T' 20 (24 * s) = 0 ∧ T' 80 (24 * s) = 0 ∧ T' 23 (24 * s) = 1 ∧ T' 81 (24 * s) = 1 ∧ T' 24 (24 * s) = n ∧ T' 84 (24 * s) = n) (e2 : ∀ i : Nat, i < n → T' 85 (8 * (24 * s) + i) = T' 25 (8 * (24 * s) + i))
    (e3 : ∀ a, a < 8 → a ≠ s → T' 18 a = T 18 a ∧ T' 78 a = T 78 a) (e4 : ∀ a q, ((19 ≤ a ∧ a ≤ 24) ∨ (79 ≤ a ∧ a ≤ 84)) → q < 192 → q / 24 ≠ s → T' a q = T a q) (e5 : ∀ a q i, (a = 25 ∨ a = 85) → q < 192 → q / 24 ≠ s → i < 8 → T' a (8 * q + i) = T a (8 * q + i)) : XT T' := by
  have hvp : ∀ p, VP T' p → p / 24 ≠ s → VP T p := by
    intro p hp h
    unfold VP at *
    rw [(e3 _ (by omega) h).1] at hp
    exact hp
  have hvp2 : ∀ p q, p / 24 ≠ s → q / 24 = p / 24 → VP T q → VP T' q := by
    intro p q h1 h2 hq
    unfold VP at *
    rw [(e3 _ (by omega) (by omega)).1]
    exact hq
  refine ⟨⟨fun a ha => ?_, fun p hp => ?_⟩, fun a ha => ?_⟩
  · by_cases h : a = s
    · subst h
      omega
    · have z := e3 a ha h
      rw [z.1, z.2]
      exact X.1.1 a ha
  · by_cases h : p / 24 = s
    · have hp2 := hp.2
      rw [h, e1.1] at hp2
      have hpe : p = 24 * s := by omega
      subst hpe
      obtain ⟨a1, a2, a3, a4, a5, a6, a7, a8, a9, a10⟩ := e1
      unfold WFp
      rw [a3, a4, a5, a6, a7, a8, a9, a10]
      refine ⟨by omega, fun z => by omega, fun z => by omega, fun z => by omega, fun _ => ⟨by omega, by omega, fun i hi => e2 i (by omega)⟩, fun z => by omega, fun z => by omega, fun z => by omega, fun z => by omega, fun z => by omega, fun _ => rfl, fun z => by omega, fun z => by omega⟩
    · have hp1 := hp.1
      have w := X.1.2 p (hvp p hp h)
      have ee : ∀ a, ((19 ≤ a ∧ a ≤ 24) ∨ (79 ≤ a ∧ a ≤ 84)) → T' a p = T a p := fun a x => e4 a p x hp1 h
      obtain ⟨w1, w2, w3, w4, w5, w6, w7, w8, w9, w10, w11, w12, w13⟩ := w
      unfold WFp
      rw [ee 19 (by omega), ee 20 (by omega), ee 21 (by omega), ee 22 (by omega), ee 23 (by omega), ee 24 (by omega), ee 79 (by omega), ee 80 (by omega), ee 81 (by omega), ee 82 (by omega), ee 83 (by omega), ee 84 (by omega)]
      refine ⟨w1, w2, w3, w4, fun z => ⟨(w5 z).1, (w5 z).2.1, fun i hi => ?_⟩, w6, w7, w8, w9, w10, w11, fun z => ⟨hvp2 p _ h (w12 z).2 (w12 z).1, (w12 z).2⟩, fun z => ?_⟩
      · have := (w5 z).2.1
        rw [e5 85 p i (by omega) hp1 h (by omega), e5 25 p i (by omega) hp1 h (by omega)]
        exact (w5 z).2.2 i hi
      · have a := w12 (by omega)
        rw [e4 23 (p + 1) (by omega) a.1.1 (by omega)]
        exact ⟨hvp2 p _ h (w13 z).2 (w13 z).1, (w13 z).2⟩
  · by_cases h : a = s
    · subst h
      exact Or.inr ⟨e1.1, e1.2.2.1⟩
    · have w := X.2 a ha
      have z := e3 a ha h
      have x := X.1.1 a ha
      rcases w with ⟨w1, w2⟩ | w
      · left
        rw [z.1]
        refine ⟨?_, fun k hk h2 i hi => ?_⟩
        · rw [sm_congr (f := fun k => tk T' (24 * a + k)) (g := fun k => tk T (24 * a + k)) (T 18 a).toNat (fun k hk => ?_)]
          · exact w1
          · have hd : (24 * a + k) / 24 = a := by omega
            unfold tk
            rw [e4 19 _ (by omega) (by omega) (by omega), e4 24 _ (by omega) (by omega) (by omega)]
        · rw [e4 19 _ (by omega) (by omega) (by omega)] at h2
          rw [e4 24 _ (by omega) (by omega) (by omega)] at hi
          have hv : VP T (24 * a + k) := ⟨by omega, by rw [(sk (by omega)).1, (sk (by omega)).2]; exact hk⟩
          have := (X.1.2 _ hv).2.2.2.2.1 h2
          rw [e5 25 _ i (by omega) (by omega) (by omega) (by omega)]
          exact w2 k hk h2 i hi
      · right
        rw [z.1, e4 19 _ (by omega) (by omega) (by omega)]
        exact w
theorem cp_ext {c : St} {a0 a1 sp dp k : Nat} (h : a0 ≠ a1) : up (cp c a0 sp a1 dp k) a1 (dp + k) (cp c a0 sp a1 dp k a0 (sp + k)) = cp c a0 sp a1 dp (k + 1) := by
  funext b x
  rw [up_app, cp_app (s := c) (b := b) (k := x) (n := k + 1), cp_ne h]
  by_cases h1 : b = a1 ∧ x = dp + k
  · obtain ⟨rfl, rfl⟩ := h1
    rw [if_pos ⟨rfl, rfl⟩, if_pos (by omega), show sp + (dp + k - dp) = sp + k by omega]
  · rw [if_neg h1, cp_app]
    by_cases h2 : b = a1 ∧ dp ≤ x ∧ x < dp + k
    · rw [if_pos h2, if_pos (by omega)]
    · rw [if_neg h2, if_neg (by omega)]
theorem e_close1 {N : Nat} (hN : 100 ≤ N) {c : St} {s : Nat} (hs : s < 8) (h : c 19 (24 * s) = 2) : d_x5_close N 17 8 c (s : Int) 1 = some (up (up c 18 s 1) 23 (24 * s) 1, 0) := by
  unfold d_x5_close
  rw [w32i (x := (s : Int)) (by omega) (by omega), if_pos (by omega), bd_eq, bd_eq, bd_eq, Int.toNat_natCast, show (17 : Nat) + 1 = 18 from rfl]
  obtain ⟨m, hm⟩ : ∃ m, N = m + 2 := ⟨N - 2, by omega⟩
  have l1 : ∀ d : St, d_x5_close_19L N 17 8 (m + 1) d 1 ((s : Int) * 24) ((s : Int) * 24 + -1) = some (d, 0) := by
    intro d
    show d_x5_close_19 N 17 8 (d_x5_close_19L N 17 8 m) d 1 _ _ = _
    unfold d_x5_close_19
    rw [w32i (x := (s : Int) * 24 + -1) (by omega) (by omega), w32i (x := (s : Int) * 24) (by omega) (by omega), if_pos (by omega)]
  have l2 : d_x5_close_19L N 17 8 (m + 2) (up c 18 s 1) 1 ((s : Int) * 24) ((s : Int) * 24) = some (up (up c 18 s 1) 23 (24 * s) 1, 0) := by
    show d_x5_close_19 N 17 8 (d_x5_close_19L N 17 8 (m + 1)) (up c 18 s 1) 1 _ _ = _
    unfold d_x5_close_19
    have e : up c 18 s 1 19 (24 * s) = 2 := by rw [up_ne (by omega)]; exact h
    rw [w32i (x := (s : Int) * 24) (by omega) (by omega), if_neg (by omega), if_pos (by omega), show ((s : Int) * 24).toNat = 24 * s by omega, show (17 : Nat) + 2 = 19 from rfl, e, e_rows (by decide), bI_some]
    obtain ⟨m', hm'⟩ : ∃ m', N = m' + 1 := ⟨N - 1, by omega⟩
    have g : d_x5_close_43L N 17 8 (d_x5_close_19L N 17 8 (m + 1)) N (up c 18 s 1) 1 ((s : Int) * 24) ((s : Int) * 24) (nro 2) 1 0 = d_x5_close_43 N 17 8 (d_x5_close_19L N 17 8 (m + 1)) (d_x5_close_43L N 17 8 (d_x5_close_19L N 17 8 (m + 1)) m') (up c 18 s 1) 1 ((s : Int) * 24) ((s : Int) * 24) (nro 2) 1 0 := by
      conv => lhs; arg 5; rw [hm']
      rfl
    rw [g]
    unfold d_x5_close_43 d_x5_close_82
    rw [if_neg (show ¬ w32 0 < w32 (nro 2) by decide), w32i (x := (s : Int) * 24) (by omega) (by omega), if_pos (by omega), bd_eq, bd_eq, show ((s : Int) * 24).toNat = 24 * s by omega, show (17 : Nat) + 6 = 23 from rfl]
    exact l1 _
  have l3 : d_x5_close_19L N 17 8 N (up c 18 s 1) 1 ((s : Int) * 24) ((s : Int) * 24 + 1 - 1) = d_x5_close_19L N 17 8 (m + 2) (up c 18 s 1) 1 ((s : Int) * 24) ((s : Int) * 24) := by
    rw [show (s : Int) * 24 + 1 - 1 = (s : Int) * 24 by omega, ← hm]
  rw [l3]
  exact l2
/-- lay() -/
theorem r_lay {N : Nat} (hN : 200 ≤ N) {c r : St} {a0 a1 a2 a3 a4 : Int} (h0 : r32 a0) (h1 : r32 a1) (h2 : r32 a2) (h3 : r32 a3) (h4 : r32 a4) (H : RG c r) : Two (d_x7_lay N c a0 a1 a2 a3 a4) (d_x8_lay N r a0 a1 a2 a3 a4) (QG c r) := by
  unfold d_x7_lay d_x8_lay
  have h2' := h2
  have h3' := h3
  have h4' := h4
  unfold r32 at h2' h3' h4'
  by_cases hh : 0 ≤ a0 ∧ a0 < 4
  rotate_left
  · refine Two.cL (H7f h0 hh) (Two.iL (by decide) ?_)
    refine Two.cR (H8f h0 hh) (Two.iR (by decide) ?_)
    exact Two.ret rfl (QG.refl H _)
  refine Two.cL (H7t h0 hh) (Two.eL (by decide) ?_)
  refine Two.cR (H8t h0 hh) (Two.eR (by decide) ?_)
  by_cases hs : 0 ≤ a1 ∧ a1 < 8
  rotate_left
  · refine Two.cL (S7f h1 hs) (Two.iL (by decide) ?_)
    refine Two.cR (S8f h1 hs) (Two.iR (by decide) ?_)
    exact Two.ret rfl (QG.refl H _)
  refine Two.cL (S7t h1 hs) (Two.eL (by decide) ?_)
  refine Two.cR (S8t h1 hs) (Two.eR (by decide) ?_)
  by_cases hq : 0 ≤ a2 ∧ a2 ≤ 2
  rotate_left
  · refine Two.cR (inf h2 (by unfold r32; omega) (by unfold r32; omega) hq) (Two.iR (by decide) ?_)
    by_cases hn : a2 < 0
    · exact Two.iL (by rw [w32r h2]; exact hn) (Two.ret rfl (QG.refl H _))
    · exact Two.eL (by rw [w32r h2]; exact hn) (Two.iL (by rw [w32r h2]; omega) (Two.ret rfl (QG.refl H _)))
  refine Two.cR (int h2 (by unfold r32; omega) (by unfold r32; omega) hq) (Two.eR (by decide) ?_)
  refine Two.eL (by rw [w32r h2]; omega) (Two.eL (by rw [w32r h2]; omega) ?_)
  by_cases hn : 1 ≤ a4 ∧ a4 ≤ 8
  rotate_left
  · refine Two.cR (inf h4 (by unfold r32; omega) (by unfold r32; omega) hn) (Two.iR (by decide) ?_)
    by_cases hn1 : a4 < 1
    · exact Two.iL (by rw [w32r h4]; exact hn1) (Two.ret rfl (QG.refl H _))
    · exact Two.eL (by rw [w32r h4]; exact hn1) (Two.iL (by rw [w32r h4]; omega) (Two.ret rfl (QG.refl H _)))
  refine Two.cR (int h4 (by unfold r32; omega) (by unfold r32; omega) hn) (Two.eR (by decide) ?_)
  refine Two.eL (by rw [w32r h4]; omega) (Two.eL (by rw [w32r h4]; omega) ?_)
  obtain ⟨h, rfl⟩ : ∃ h : Nat, a0 = h := ⟨a0.toNat, by omega⟩
  obtain ⟨s, rfl⟩ : ∃ s : Nat, a1 = s := ⟨a1.toNat, by omega⟩
  obtain ⟨n, rfl⟩ : ∃ n : Nat, a4 = n := ⟨a4.toNat, by omega⟩
  have hsh := H.2.2.2.2.1
  have h52 := hsh.r52 (h := h) (by omega)
  have h126 := hsh.r126 (h := h) (by omega)
  have hg : 0 ≤ w32 (h : Int) ∧ w32 (h : Int) < ((4 : Nat) : Int) := (by ((try simp (disch := omega) only [w32i, Int.toNat_natCast]) <;> omega))
  have hgs : 0 ≤ w32 (s : Int) ∧ w32 (s : Int) < ((8 : Nat) : Int) := (by ((try simp (disch := omega) only [w32i, Int.toNat_natCast]) <;> omega))
  have hgp : 0 ≤ w32 ((s : Int) * 24) ∧ w32 ((s : Int) * 24) < ((192 : Nat) : Int) := (by ((try simp (disch := omega) only [w32i, Int.toNat_natCast]) <;> omega))
  have hgp2 : 0 ≤ w32 (24 * (s : Int)) ∧ w32 (24 * (s : Int)) < ((192 : Nat) : Int) := (by ((try simp (disch := omega) only [w32i, Int.toNat_natCast]) <;> omega))
  have key : Two (d_x7_lay_69 N c (h : Int) (s : Int) a3 (n : Int)) (d_x8_lay_64 N r (h : Int) (s : Int) a3 (n : Int)) (QG c r) := by
    unfold d_x7_lay_69 d_x8_lay_64
    refine Two.cL (e_miss c (by omega) h52) ?_
    refine Two.iR hg ?_
    rw [w32i (x := (h : Int)) (by omega) (by omega), Int.toNat_natCast, h126]
    by_cases hm : c 52 h = -1
    · rw [if_pos hm, if_pos hm]
      refine Two.eL (by decide) (Two.iR (by decide) ?_)
      exact Two.ret rfl (QG.refl H _)
    rw [if_neg hm, if_neg hm]
    refine Two.iL (by decide) (Two.eR (by decide) ?_)
    rcases hsh h (by omega) with z | ⟨z1, z2, z3, z4, z5, z6, z7⟩
    · exact absurd z.1 hm
    refine Two.cL (e_spans c (by omega) h3 h4 ⟨z5, z6⟩) ?_
    rw [z4, w32r h3, w32i (x := c 53 h - (n : Int)) (by omega) (by omega)]
    by_cases hi : 0 ≤ a3 ∧ 0 ≤ (n : Int) ∧ a3 + (n : Int) ≤ c 53 h
    rotate_left
    · rw [if_neg hi]
      refine Two.iL (by decide) ?_
      by_cases hneg : a3 < 0
      · exact Two.iR hneg (Two.ret rfl (QG.refl H _))
      · exact Two.eR hneg (Two.iR (by omega) (Two.iR (by omega) (Two.ret rfl (QG.refl H _))))
    rw [if_pos hi]
    obtain ⟨f, rfl⟩ : ∃ f : Nat, a3 = f := ⟨a3.toNat, by omega⟩
    refine Two.eL (by decide) (Two.bdL ?_)
    refine Two.eR (by omega) (Two.iR (by omega) (Two.eR (by omega) (Two.bdR ?_)))
    -- the class
    obtain ⟨c1, hc1⟩ : ∃ c1, c1 = up (up (up (up (up (up c 19 (24 * s) 2) 20 (24 * s) 0) 21 (24 * s) 0) 22 (24 * s) 0) 24 (24 * s) 0) 24 (24 * s) n := ⟨_, rfl⟩
    have eclr : d_x5_clearPart N 17 8 c ((s : Int) * 24) 2 = some (up (up (up (up (up c 19 (24 * s) 2) 20 (24 * s) 0) 21 (24 * s) 0) 22 (24 * s) 0) 24 (24 * s) 0, 0) := by
      unfold d_x5_clearPart
      have g : 0 ≤ w32 ((s : Int) * 24) ∧ w32 ((s : Int) * 24) < ((8 * 24 : Nat) : Int) := hgp
      rw [if_pos g, bd_eq, if_pos g, bd_eq, if_pos g, bd_eq, if_pos g, bd_eq, if_pos g, bd_eq, w32i (x := (s : Int) * 24) (by omega) (by omega), show ((s : Int) * 24).toNat = 24 * s by omega]
    refine Two.vL eclr ?_
    refine Two.iL hgp (Two.bdL ?_)
    rw [w32i (x := (s : Int) * 24) (by omega) (by omega), show ((s : Int) * 24).toNat = 24 * s by omega, ← hc1]
    have hc1x : ∀ a k, ¬ (19 ≤ a ∧ a ≤ 24 ∧ k = 24 * s) → c1 a k = c a k := by
      intro a k z
      rw [hc1, up_app, if_neg (by omega), up_app, if_neg (by omega), up_app, if_neg (by omega), up_app, if_neg (by omega), up_app, if_neg (by omega), up_app, if_neg (by omega)]
    have c19 : c1 19 (24 * s) = 2 := by rw [hc1, up_ne (by omega), up_ne (by omega), up_ne (by omega), up_ne (by omega), up_ne (by omega), up_same]
    have c20 : c1 20 (24 * s) = 0 := by rw [hc1, up_ne (by omega), up_ne (by omega), up_ne (by omega), up_ne (by omega), up_same]
    have c24 : c1 24 (24 * s) = n := by rw [hc1, up_same]
    have LC : ∀ (k m i : Nat), i + k = n → k < m → d_x7_lay_132L N m (cp c1 54 (h * 40 + f) 25 (8 * (24 * s)) i) (h : Int) (s : Int) (f : Int) (n : Int) ((s : Int) * 24) (i : Int) = bV (d_x5_close N 17 8 (cp c1 54 (h * 40 + f) 25 (8 * (24 * s)) n) (s : Int) 1) fun s1 => bV (d_x6_untell N 26 s1 ) fun s3 => some (s3, (n : Int)) := by
      intro k
      induction k with
      | zero =>
        intro m i hi' hm'
        obtain ⟨m, rfl⟩ : ∃ m', m = m' + 1 := ⟨m - 1, by omega⟩
        have : i = n := by omega
        subst this
        show d_x7_lay_132 N (d_x7_lay_132L N m) _ h s f i _ i = _
        unfold d_x7_lay_132
        rw [if_neg (Int.lt_irrefl _)]
      | succ k ih =>
        intro m i hi' hm'
        obtain ⟨m, rfl⟩ : ∃ m', m = m' + 1 := ⟨m - 1, by omega⟩
        show d_x7_lay_132 N (d_x7_lay_132L N m) _ h s f n _ i = _
        unfold d_x7_lay_132 d_x3_read
        rw [w32i (x := (i : Int)) (by omega) (by omega), w32i (x := (n : Int)) (by omega) (by omega), if_pos (by omega), w32i (x := (h : Int) * 40 + ((f : Int) + (i : Int))) (by omega) (by omega), if_pos (by omega), bI_some, w32i (x := (s : Int) * 24 * 8 + (i : Int)) (by omega) (by omega), if_pos (by omega), bd_eq, bd_eq, show ((h : Int) * 40 + ((f : Int) + (i : Int))).toNat = h * 40 + f + i by omega, show ((s : Int) * 24 * 8 + (i : Int)).toNat = 8 * (24 * s) + i by omega, cp_ext (by decide)]
        exact ih m (i + 1) (by omega) (by omega)
    have LC0 := LC n N 0 (by omega) (by omega)
    rw [cp_0] at LC0
    have LC1 : d_x7_lay_132L N N c1 (h : Int) (s : Int) (f : Int) (n : Int) ((s : Int) * 24) 0 = _ := LC0
    rw [LC1]
    -- the model
    obtain ⟨r1, hr1⟩ : ∃ r1, r1 = up (up (up (up (up r 78 s 1) 79 (24 * s) 2) 80 (24 * s) 0) 81 (24 * s) 1) 84 (24 * s) n := ⟨_, rfl⟩
    refine Two.iR hgs (Two.bdR (Two.iR hgp2 (Two.bdR (Two.iR hgp2 (Two.bdR (Two.iR hgp2 (Two.bdR (Two.iR hgp2 (Two.bdR ?_)))))))))
    rw [w32i (x := (s : Int)) (by omega) (by omega), Int.toNat_natCast, w32i (x := 24 * (s : Int)) (by omega) (by omega), show (24 * (s : Int)).toNat = 24 * s by omega, ← hr1]
    have hr1x : ∀ a k, ¬ (a = 78 ∧ k = s) → ¬ (79 ≤ a ∧ a ≤ 84 ∧ a ≠ 82 ∧ a ≠ 83 ∧ k = 24 * s) → r1 a k = r a k := by
      intro a k z y
      rw [hr1, up_app, if_neg (by omega), up_app, if_neg (by omega), up_app, if_neg (by omega), up_app, if_neg (by omega), up_app, if_neg (by omega)]
    have r78 : r1 78 s = 1 := by rw [hr1, up_ne (by omega), up_ne (by omega), up_ne (by omega), up_ne (by omega), up_same]
    have r79 : r1 79 (24 * s) = 2 := by rw [hr1, up_ne (by omega), up_ne (by omega), up_ne (by omega), up_same]
    have r80 : r1 80 (24 * s) = 0 := by rw [hr1, up_ne (by omega), up_ne (by omega), up_same]
    have r81 : r1 81 (24 * s) = 1 := by rw [hr1, up_ne (by omega), up_same]
    have r84 : r1 84 (24 * s) = n := by rw [hr1, up_same]
    have LM : ∀ (k m i : Nat), i + k = n → k < m → d_x8_lay_147L N m (cp r1 129 (h * 40 + f) 85 (8 * (24 * s)) i) (h : Int) (f : Int) (n : Int) (24 * (s : Int)) (i : Int) = bV (d_x8_untells N (cp r1 129 (h * 40 + f) 85 (8 * (24 * s)) n)) fun s1 => some (s1, (n : Int)) := by
      intro k
      induction k with
      | zero =>
        intro m i hi' hm'
        obtain ⟨m, rfl⟩ : ∃ m', m = m' + 1 := ⟨m - 1, by omega⟩
        have : i = n := by omega
        subst this
        show d_x8_lay_147 N (d_x8_lay_147L N m) _ h f i _ i = _
        unfold d_x8_lay_147
        rw [if_neg (Int.lt_irrefl _)]
      | succ k ih =>
        intro m i hi' hm'
        obtain ⟨m, rfl⟩ : ∃ m', m = m' + 1 := ⟨m - 1, by omega⟩
        show d_x8_lay_147 N (d_x8_lay_147L N m) _ h f n _ i = _
        unfold d_x8_lay_147
        rw [w32i (x := (i : Int)) (by omega) (by omega), w32i (x := (n : Int)) (by omega) (by omega), if_pos (by omega), w32i (x := 40 * (h : Int) + (f : Int) + (i : Int)) (by omega) (by omega), if_pos (by omega), w32i (x := 8 * (24 * (s : Int)) + (i : Int)) (by omega) (by omega), if_pos (by omega), bd_eq, bd_eq, show (40 * (h : Int) + (f : Int) + (i : Int)).toNat = h * 40 + f + i by omega, show (8 * (24 * (s : Int)) + (i : Int)).toNat = 8 * (24 * s) + i by omega, cp_ext (by decide)]
        exact ih m (i + 1) (by omega) (by omega)
    have LM0 := LM n N 0 (by omega) (by omega)
    rw [cp_0] at LM0
    have LM1 : d_x8_lay_147L N N r1 (h : Int) (f : Int) (n : Int) (24 * (s : Int)) 0 = _ := LM0
    rw [LM1]
    obtain ⟨c2, hc2⟩ : ∃ c2, c2 = cp c1 54 (h * 40 + f) 25 (8 * (24 * s)) n := ⟨_, rfl⟩
    obtain ⟨r2, hr2⟩ : ∃ r2, r2 = cp r1 129 (h * 40 + f) 85 (8 * (24 * s)) n := ⟨_, rfl⟩
    rw [← hc2, ← hr2]
    refine Two.vL (e_close1 (by omega) (by omega) (by rw [hc2, cp_ne (by omega)]; exact c19)) ?_
    have c3x : ∀ a k, a ≠ 18 → a ≠ 23 → a ≠ 25 → up (up c2 18 s 1) 23 (24 * s) 1 a k = c1 a k := fun a k x y z => by rw [up_ne y, up_ne x, hc2, cp_ne z]
    have r2x : ∀ a k, a ≠ 85 → r2 a k = r1 a k := fun a k x => by rw [hr2, cp_ne x]
    have hX : XT (tx (up (up c2 18 s 1) 23 (24 * s) 1) r2) := by
      have A := tx_ct (up (up c2 18 s 1) 23 (24 * s) 1) r2
      have B := tx_rt (up (up c2 18 s 1) 23 (24 * s) 1) r2
      refine H.2.1.1.lay (s := s) (n := n) (by omega) (by omega) ⟨?_, ?_, ?_, ?_, ?_, ?_, ?_, ?_, ?_, ?_⟩ (fun i hi' => ?_) (fun a ha hne => ⟨?_, ?_⟩) (fun a q ha hq hne => ?_) (fun a q i ha hq hne hi' => ?_)
      · rw [← A 18 s (by omega) (by omega), up_ne (by omega), up_same]
      · rw [← B 78 s (by omega) (by omega), r2x _ _ (by omega)]; exact r78
      · rw [← A 19 _ (by omega) (by omega), c3x _ _ (by omega) (by omega) (by omega)]; exact c19
      · rw [← B 79 _ (by omega) (by omega), r2x _ _ (by omega)]; exact r79
      · rw [← A 20 _ (by omega) (by omega), c3x _ _ (by omega) (by omega) (by omega)]; exact c20
      · rw [← B 80 _ (by omega) (by omega), r2x _ _ (by omega)]; exact r80
      · rw [← A 23 _ (by omega) (by omega), up_same]
      · rw [← B 81 _ (by omega) (by omega), r2x _ _ (by omega)]; exact r81
      · rw [← A 24 _ (by omega) (by omega), c3x _ _ (by omega) (by omega) (by omega)]; exact c24
      · rw [← B 84 _ (by omega) (by omega), r2x _ _ (by omega)]; exact r84
      · rw [← A 25 _ (by omega) (by omega), ← B 85 _ (by omega) (by omega), up_ne (by omega), up_ne (by omega), hc2, hr2, cp_app, if_pos (by omega), cp_app, if_pos (by omega), show 8 * (24 * s) + i - 8 * (24 * s) = i by omega, hc1x _ _ (by omega), hr1x _ _ (by omega) (by omega), show h * 40 + f + i = h * 40 + (f + i) by omega]
        exact (z7 (f + i) (by omega)).symm
      · rw [← A 18 _ (by omega) (by omega), ← tx_ct c r 18 _ (by omega) (by omega), up_ne (by omega), up_nj hne, hc2, cp_ne (by omega)]
        exact hc1x _ _ (by omega)
      · rw [← B 78 _ (by omega) (by omega), ← tx_rt c r 78 _ (by omega) (by omega), r2x _ _ (by omega)]
        exact hr1x _ _ (by omega) (by omega)
      · refine tx_pt (fun x => ?_) (fun x => ?_)
        · by_cases e23 : a = 23
          · subst e23
            rw [up_nj (by omega), up_ne (by omega), hc2, cp_ne (by omega)]
            exact hc1x _ _ (by omega)
          · rw [c3x _ _ (by omega) e23 (by omega)]
            exact hc1x _ _ (by omega)
        · rw [r2x _ _ (by omega)]
          exact hr1x _ _ (by omega) (by omega)
      · refine tx_pt (fun x => ?_) (fun x => ?_)
        · have : a = 25 := by omega
          subst this
          rw [up_ne (by omega), up_ne (by omega), hc2, cp_app, if_neg (by omega)]
          exact hc1x _ _ (by omega)
        · have : a = 85 := by omega
          subst this
          rw [hr2, cp_app, if_neg (by omega)]
          exact hr1x _ _ (by omega) (by omega)
    have ecx : ∀ a k, ¬ ((1 ≤ a ∧ a ≤ 14) ∨ (18 ≤ a ∧ a ≤ 25)) → up (up c2 18 s 1) 23 (24 * s) 1 a k = c a k := fun a k z => by rw [c3x a k (by omega) (by omega) (by omega)]; exact hc1x a k (by omega)
    have ec0 : ∀ a k, a < 18 → up (up c2 18 s 1) 23 (24 * s) 1 a k = c a k := fun a k z => by rw [c3x a k (by omega) (by omega) (by omega)]; exact hc1x a k (by omega)
    have erx : ∀ a k, ¬ (78 ≤ a ∧ a ≤ 85) → r2 a k = r a k := fun a k z => by rw [r2x a k (by omega)]; exact hr1x a k (by omega) (by omega)
    obtain ⟨c4, r4, w, w', u1, u2, q⟩ := S_unt hN (c1 := up (up c2 18 s 1) 23 (24 * s) 1) (r1 := r2) H ecx (fun a k z y => erx a k (by omega)) (fun k z => erx _ _ (by omega)) (H.1.cong (ec0 _ _ (by omega)) (fun k => ec0 _ _ (by omega)) (erx _ _ (by omega)) (fun k => erx _ _ (by omega))) hX
    refine Two.vL u1 ?_
    refine Two.vR u2 ?_
    exact Two.ret rfl (q _)
  refine Two.cL (e_miss c (by omega) h52) ?_
  refine Two.iR hg ?_
  rw [w32i (x := (h : Int)) (by omega) (by omega), Int.toNat_natCast, h126]
  by_cases hm : c 52 h = -1
  · rw [if_pos hm, if_pos hm]
    refine Two.eL (by decide) (Two.iR (by decide) ?_)
    exact key
  · rw [if_neg hm, if_neg hm]
    refine Two.iL (by decide) (Two.eR (by decide) ?_)
    refine Two.iL (by omega) (Two.iR (by omega) ?_)
    rcases hsh h (by omega) with z | ⟨z1, z2, z3, z4, z5, z6, z7⟩
    · exact absurd z.1 hm
    rw [z3, w32r h52, w32r h2]
    by_cases e : c 52 h = a2
    · exact Two.iL e (Two.iR e key)
    · exact Two.eL e (Two.eR e (Two.ret rfl (QG.refl H _)))
