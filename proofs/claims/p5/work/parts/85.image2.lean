/-- image() -/
theorem r_image {N : Nat} (hN : 20000 ≤ N) {c r : St} (H : RG c r) : Two (d_x7_image N c) (d_x8_image N r) (QG c r) := by
  have hT := H.2.1
  have hp := H.p18
  have hl := H.2.2.2.2.2.1
  unfold RLi at hl
  unfold d_x7_image d_x8_image
  obtain ⟨c1, w1, f1, a1, a2⟩ := e_tkA (t := 56) (t2 := 17) (N := N) (c := c) (by omega) (by omega) (fun s hs => (hp s hs).1)
  have hU65 : UT 65 c1 := H.2.2.1.2.cong (fun a k _ _ => a1 a k (by omega))
  have hU26 : UT 26 c1 := (UT.of hT.2.2.1 hT.2.1).cong (fun a k _ _ => a1 a k (by omega))
  obtain ⟨c2, w2, f2, C2, b1⟩ := e_take (t := 65) (t2 := 26) (N := N) (c := c1) (by omega) (by omega) hU65 hU26
  obtain ⟨r1, g1, p1, q1⟩ := e_im2 (N := N) r 8 N r 0 (by omega) (by omega) (fun q hq => by omega) (fun _ _ _ => rfl)
  obtain ⟨r2, g2, p2, q2⟩ := e_im28 (N := N) r1 192 N r1 0 (by omega) (by omega) (fun q hq => by omega) (fun _ _ _ => rfl)
  obtain ⟨r3, g3, p3, q3⟩ := e_im163 (N := N) r2 1536 N r2 0 (by omega) (by omega) (fun q hq => by omega) (fun _ _ _ => rfl)
  obtain ⟨r4, g4, p4, q4⟩ := e_im190 (N := N) r3 12288 N r3 0 (by omega) (by omega) (fun q hq => by omega) (fun _ _ _ => rfl)
  have g1' : d_x8_image_2L N N r 0 = d_x8_image_28L N N r1 0 := g1
  have g2' : d_x8_image_28L N N r1 0 = d_x8_image_163L N N r2 0 := g2
  have g3' : d_x8_image_163L N N r2 0 = d_x8_image_190L N N r3 0 := g3
  have g4' : d_x8_image_190L N N r3 0 = (bI (d_x8_full N (up (up r4 77 63 (r4 77 9)) 77 64 1)) fun s3 v4 => some (s3, v4)) := g4
  refine Two.vL f1 ?_
  refine Two.vL f2 ?_
  refine Two.bdL (Two.bdL ?_)
  rw [g1', g2', g3', g4']
  have q4n : ∀ a k, ¬ (111 ≤ a ∧ a ≤ 125) → r4 a k = r a k := fun a k z => by rw [q4 a k (by omega), q3 a k (by omega), q2 a k (by omega), q1 a k (by omega)]
  -- what is kept
  have k18 : ∀ s, s < 8 → r4 111 s = r 78 s := fun s hs => by rw [q4 _ _ (by omega), q3 _ _ (by omega), q2 _ _ (by omega)]; exact p1 s hs
  have k19 : ∀ a q, 79 ≤ a → a ≤ 84 → q < 192 → r4 (a + 33) q = r a q := by
    intro a q h1 h2 hq
    have z := p2 q hq
    rw [q1 79 q (by omega), q1 80 q (by omega), q1 81 q (by omega), q1 82 q (by omega), q1 83 q (by omega), q1 84 q (by omega)] at z
    rw [q4 _ _ (by omega), q3 _ _ (by omega)]
    have : a = 79 ∨ a = 80 ∨ a = 81 ∨ a = 82 ∨ a = 83 ∨ a = 84 := by omega
    rcases this with rfl | rfl | rfl | rfl | rfl | rfl
    · exact z.1
    · exact z.2.1
    · exact z.2.2.1
    · exact z.2.2.2.1
    · exact z.2.2.2.2.1
    · exact z.2.2.2.2.2.1
  have k86 : ∀ q, q < 192 → r4 119 q = r 86 q ∧ r4 120 q = r 87 q ∧ r4 121 q = r 89 q ∧ r4 122 q = r 90 q := by
    intro q hq
    have z := p2 q hq
    rw [q1 86 q (by omega), q1 87 q (by omega), q1 89 q (by omega), q1 90 q (by omega)] at z
    rw [q4 _ _ (by omega), q3 _ _ (by omega), q4 _ _ (by omega), q3 _ _ (by omega), q4 _ _ (by omega), q3 _ _ (by omega), q4 _ _ (by omega), q3 _ _ (by omega)]
    exact z.2.2.2.2.2.2
  have k85 : ∀ q, q < 1536 → r4 118 q = r 85 q := fun q hq => by
    have z := p3 q hq
    rw [q4 _ _ (by omega), z, q2 _ _ (by omega), q1 _ _ (by omega)]
  have k91 : ∀ q, q < 12288 → r4 123 q = r 91 q ∧ r4 124 q = r 92 q ∧ r4 125 q = r 93 q := fun q hq => by
    have z := p4 q hq
    rw [z.1, z.2.1, z.2.2, q3 _ _ (by omega), q2 _ _ (by omega), q1 _ _ (by omega), q3 _ _ (by omega), q2 _ _ (by omega), q1 _ _ (by omega), q3 _ _ (by omega), q2 _ _ (by omega), q1 _ _ (by omega)]
    exact ⟨rfl, rfl, rfl⟩
  obtain ⟨c4, hc4⟩ : ∃ c4, c4 = up (up c2 0 10 (c2 0 12)) 0 11 1 := ⟨_, rfl⟩
  obtain ⟨r5, hr5⟩ : ∃ r5, r5 = up (up r4 77 63 (r4 77 9)) 77 64 1 := ⟨_, rfl⟩
  rw [← hc4, ← hr5]
  have c4x : ∀ a k, a ≠ 0 → c4 a k = c2 a k := fun a k z => by rw [hc4, up_ne z, up_ne z]
  have c4c : ∀ a k, a ≠ 0 → ¬ (57 ≤ a ∧ a ≤ 76) → c4 a k = c a k := fun a k z y => by rw [c4x a k z, b1 a k (by omega), a1 a k (by omega)]
  have c40 : ∀ k, k ≠ 10 → k ≠ 11 → c4 0 k = c 0 k := fun k z y => by rw [hc4, up_nj y, up_nj z, b1 _ _ (by omega), a1 _ _ (by omega)]
  have c410 : c4 0 10 = c 0 12 := by rw [hc4, up_nj (by omega), up_same, b1 _ _ (by omega), a1 _ _ (by omega)]
  have c411 : c4 0 11 = 1 := by rw [hc4, up_same]
  have r5x : ∀ a k, a ≠ 77 → r5 a k = r4 a k := fun a k z => by rw [hr5, up_ne z, up_ne z]
  have r57 : ∀ k, k ≠ 63 → k ≠ 64 → r5 77 k = r 77 k := fun k z y => by rw [hr5, up_nj y, up_nj z]; exact q4n _ _ (by omega)
  have r563 : r5 77 63 = r 77 9 := by rw [hr5, up_nj (by omega), up_same]; exact q4n _ _ (by omega)
  have r564 : r5 77 64 = 1 := by rw [hr5, up_same]
  have r5n : ∀ a k, a ≠ 77 → ¬ (111 ≤ a ∧ a ≤ 125) → r5 a k = r a k := fun a k z y => by rw [r5x a k z]; exact q4n a k y
  have V : VA (tx c r) (tj c4 r5) := by
    have spl : ∀ p, VP (tx c r) p → ∃ s x : Nat, p = 24 * s + x ∧ s < 8 ∧ (x : Int) < c 18 s := by
      intro p hpv
      refine ⟨p / 24, p % 24, by omega, by have := hpv.1; omega, ?_⟩
      have := hpv.2
      rw [← tx_ct c r 18 _ (by omega) (by omega)] at this
      exact this
    refine ⟨fun s hs => ⟨?_, ?_⟩, fun p hpv a ha => ?_, fun p hpv i hi => ⟨?_, ?_⟩⟩
    · unfold tj
      rw [if_pos (by omega), ← tx_ct c r 18 s (by omega) (by omega), c4x _ _ (by omega), b1 _ _ (by omega)]
      exact (a2 s hs).1
    · unfold tj
      rw [if_neg (by omega), if_pos (by omega), ← tx_rt c r 78 s (by omega) (by omega), r5x _ _ (by omega)]
      exact k18 s hs
    · obtain ⟨s, x, rfl, hs, hx⟩ := spl p hpv
      unfold tj
      rcases ha with ha | ha
      · rw [if_pos (by omega), ← tx_ct c r a _ (by omega) (by omega), c4x _ _ (by omega), b1 _ _ (by omega)]
        have z := ((a2 s hs).2 x hx).1 (a - 17) (by omega) (by omega)
        rw [show 56 + (a - 17) = a + 39 by omega, show 17 + (a - 17) = a by omega] at z
        exact z
      · rw [if_neg (by omega), if_pos (by omega), ← tx_rt c r a _ (by omega) (by omega), r5x _ _ (by omega)]
        exact k19 a _ ha.1 ha.2 hpv.1
    · obtain ⟨s, x, rfl, hs, hx⟩ := spl p hpv
      unfold tj
      rw [if_pos (by omega), ← tx_ct c r 25 _ (by omega) (by omega), c4x _ _ (by omega), b1 _ _ (by omega)]
      exact ((a2 s hs).2 x hx).2 i hi
    · have := hpv.1
      unfold tj
      rw [if_neg (by omega), if_pos (by omega), ← tx_rt c r 85 _ (by omega) (by omega), r5x _ _ (by omega)]
      exact k85 _ (by omega)
  have S1 : TS 26 (tx c r) c1 r := hT.2.1.cong (fun a k _ _ => a1 a k (by omega)) (fun _ _ _ _ => rfl)
  have M1 : MT 26 (tx c r) c1 := hT.2.2.1.cong (fun a k _ _ => a1 a k (by omega))
  have S2 := C2.ts S1 M1 (r' := ir r5) (fun a k h1 h2 h3 h4 h5 => by
    unfold ir
    have : a = 86 ∨ a = 87 ∨ a = 89 ∨ a = 90 ∨ a = 91 ∨ a = 92 ∨ a = 93 := by omega
    rcases this with rfl | rfl | rfl | rfl | rfl | rfl | rfl
    · rw [if_pos (by omega), r5x _ _ (by omega)]; exact (k86 k (by omega)).1
    · rw [if_pos (by omega), r5x _ _ (by omega)]; exact (k86 k (by omega)).2.1
    · rw [if_neg (by omega), if_pos (by omega), r5x _ _ (by omega)]; exact (k86 k (by omega)).2.2.1
    · rw [if_neg (by omega), if_pos (by omega), r5x _ _ (by omega)]; exact (k86 k (by omega)).2.2.2
    · rw [if_neg (by omega), if_pos (by omega), r5x _ _ (by omega)]; exact (k91 k (h4 (by omega))).1
    · rw [if_neg (by omega), if_pos (by omega), r5x _ _ (by omega)]; exact (k91 k (h4 (by omega))).2.1
    · rw [if_neg (by omega), if_pos (by omega), r5x _ _ (by omega)]; exact (k91 k (h4 (by omega))).2.2) (fun p hp => by
    unfold ir
    rw [if_neg (by omega), if_neg (by omega)]) (fun p hp => by rw [a1 _ _ (by omega)]; exact (hT.2.2.2 p hp).1)
  have hTS : TS 65 (tj c4 r5) c4 (ir r5) := (V.ts hT.1.1 S2.1).cong (fun a k _ _ => c4x a k (by omega)) (fun _ _ _ _ => rfl)
  have hMT : MT 65 (tj c4 r5) c4 := (V.mt S2.2).cong (fun a k _ _ => c4x a k (by omega))
  have hID : ID 65 c4 := fun p hp => ⟨by rw [c4x _ _ (by omega)]; exact (C2.2.2.1 p hp).2.2.2.1, fun i hi => by rw [c4x _ _ (by omega), (C2.2.2.1 p hp).2.2.2.2.2.2.2.1 i hi, a1 _ _ (by omega)]; exact (hT.2.2.2 p hp).2 i hi⟩
  have hp4 : ∀ s : Nat, s < 8 → (0 ≤ c4 18 s ∧ c4 18 s ≤ 24) ∧ r5 78 s = c4 18 s := fun s hs => by rw [c4c _ _ (by omega) (by omega), r5n _ _ (by omega) (by omega)]; exact hp s hs
  obtain ⟨v, v1, v2⟩ := fills (N := N) (by omega) hp4
  refine Two.cL v1 ?_
  refine Two.cR v2 ?_
  refine Two.ret rfl ⟨⟨H.1.cong (c4c _ _ (by omega) (by omega)) (fun k => c4c _ _ (by omega) (by omega)) (r57 _ (by omega) (by omega)) (fun k => r5n _ _ (by omega) (by omega)), H.2.1.cong (fun a k _ _ => c4c a k (by omega) (by omega)) (fun a k _ _ => r5n a k (by omega) (by omega)), ⟨H.2.2.1.1.cong (fun a k _ _ => c4c a k (by omega) (by omega)), UT.of hMT hTS⟩, ⟨by rw [r564, c411], Or.inr ⟨c411, by rw [r563, c410]; exact hl.1, by rw [c410]; exact hl.2.1, by rw [c410]; exact hl.2.2, V.xt hT.1, hTS, hMT, hID⟩⟩, H.2.2.2.2.1.cong (fun a k _ _ => c4c a k (by omega) (by omega)) (fun a k _ _ => r5n a k (by omega) (by omega)), H.2.2.2.2.2.1.cong (c40 _ (by omega) (by omega)) (r57 _ (by omega) (by omega)), H.2.2.2.2.2.2.cong (c40 _ (by omega) (by omega)) (r57 _ (by omega) (by omega))⟩, fun a k _ => c4c a k (by omega) (by omega), fun a k _ => r5n a k (by omega) (by omega)⟩
/-- back() -/
theorem r_back {N : Nat} (hN : 20000 ≤ N) {c r : St} (H : RG c r) : Two (d_x7_back N c) (d_x8_back N r) (QG c r) := by
  have hT := H.2.1
  have hI := H.2.2.2.1
  unfold RI at hI
  unfold d_x7_back d_x8_back
  rw [hI.1]
  rcases hI.2 with z | ⟨z1, z2, z3, z4, z5⟩
  · rw [z]
    refine Two.iL (by decide) (Two.iR (by decide) ?_)
    exact Two.ret rfl (QG.refl H _)
  rw [z1]
  refine Two.eL (by decide) (Two.eR (by decide) ?_)
  have XJ := z5.1
  have tjc : ∀ a k, 18 ≤ a → a ≤ 25 → tj c r a k = c (a + 39) k := fun a k h1 h2 => by unfold tj; rw [if_pos ⟨h1, h2⟩]
  have tjr : ∀ a k, 78 ≤ a → a ≤ 85 → tj c r a k = r (a + 33) k := fun a k h1 h2 => by unfold tj; rw [if_neg (by omega), if_pos ⟨h1, h2⟩]
  have hp57 : ∀ s : Nat, s < 8 → 0 ≤ c (56 + 1) s ∧ c (56 + 1) s ≤ 24 := fun s hs => by
    have := XJ.1.1 s hs
    rw [tjc 18 s (by omega) (by omega)] at this
    exact this.2
  obtain ⟨c1, w1, f1, a1, a2⟩ := e_tkA (t := 17) (t2 := 56) (N := N) (c := c) (by omega) (by omega) hp57
  have hU26 : UT 26 c1 := (UT.of hT.2.2.1 hT.2.1).cong (fun a k _ _ => a1 a k (by omega))
  have hU65 : UT 65 c1 := H.2.2.1.2.cong (fun a k _ _ => a1 a k (by omega))
  obtain ⟨c2, w2, f2, C2, b1⟩ := e_take (t := 26) (t2 := 65) (N := N) (c := c1) (by omega) (by omega) hU26 hU65
  obtain ⟨r1, g1, p1, q1⟩ := e_bk12 (N := N) r 8 N r 0 (by omega) (by omega) (fun q hq => by omega) (fun _ _ _ => rfl)
  obtain ⟨r2, g2, p2, q2⟩ := e_bk38 (N := N) r1 192 N r1 0 (by omega) (by omega) (fun q hq => by omega) (fun _ _ _ => rfl)
  obtain ⟨r3, g3, p3, q3⟩ := e_bk173 (N := N) r2 1536 N r2 0 (by omega) (by omega) (fun q hq => by omega) (fun _ _ _ => rfl)
  obtain ⟨r4, g4, p4, q4⟩ := e_bk200 (N := N) r3 12288 N r3 0 (by omega) (by omega) (fun q hq => by omega) (fun _ _ _ => rfl)
  have g1' : d_x8_back_12L N N r 0 = d_x8_back_38L N N r1 0 := g1
  have g2' : d_x8_back_38L N N r1 0 = d_x8_back_173L N N r2 0 := g2
  have g3' : d_x8_back_173L N N r2 0 = d_x8_back_200L N N r3 0 := g3
  have g4' : d_x8_back_200L N N r3 0 = (bI (d_x8_full N (up r4 77 9 (r4 77 63))) fun s2 v3 => some (s2, v3)) := g4
  refine Two.vL f1 ?_
  refine Two.vL f2 ?_
  refine Two.bdL ?_
  rw [g1', g2', g3', g4']
  have q4n : ∀ a k, (¬ (78 ≤ a ∧ a ≤ 93) ∨ a = 88) → r4 a k = r a k := fun a k z => by rw [q4 a k (by omega), q3 a k (by omega), q2 a k (by omega), q1 a k (by omega)]
  have k18 : ∀ s, s < 8 → r4 78 s = r 111 s := fun s hs => by rw [q4 _ _ (by omega), q3 _ _ (by omega), q2 _ _ (by omega)]; exact p1 s hs
  have k19 : ∀ a q, 79 ≤ a → a ≤ 84 → q < 192 → r4 a q = r (a + 33) q := by
    intro a q h1 h2 hq
    have z := p2 q hq
    rw [q1 112 q (by omega), q1 113 q (by omega), q1 114 q (by omega), q1 115 q (by omega), q1 116 q (by omega), q1 117 q (by omega)] at z
    rw [q4 _ _ (by omega), q3 _ _ (by omega)]
    have : a = 79 ∨ a = 80 ∨ a = 81 ∨ a = 82 ∨ a = 83 ∨ a = 84 := by omega
    rcases this with rfl | rfl | rfl | rfl | rfl | rfl
    · exact z.1
    · exact z.2.1
    · exact z.2.2.1
    · exact z.2.2.2.1
    · exact z.2.2.2.2.1
    · exact z.2.2.2.2.2.1
  have k86 : ∀ q, q < 192 → r4 86 q = r 119 q ∧ r4 87 q = r 120 q ∧ r4 89 q = r 121 q ∧ r4 90 q = r 122 q := by
    intro q hq
    have z := p2 q hq
    rw [q1 119 q (by omega), q1 120 q (by omega), q1 121 q (by omega), q1 122 q (by omega)] at z
    rw [q4 _ _ (by omega), q3 _ _ (by omega), q4 _ _ (by omega), q3 _ _ (by omega), q4 _ _ (by omega), q3 _ _ (by omega), q4 _ _ (by omega), q3 _ _ (by omega)]
    exact z.2.2.2.2.2.2
  have k85 : ∀ q, q < 1536 → r4 85 q = r 118 q := fun q hq => by
    have z := p3 q hq
    rw [q4 _ _ (by omega), z, q2 _ _ (by omega), q1 _ _ (by omega)]
  have k91 : ∀ q, q < 12288 → r4 91 q = r 123 q ∧ r4 92 q = r 124 q ∧ r4 93 q = r 125 q := fun q hq => by
    have z := p4 q hq
    rw [z.1, z.2.1, z.2.2, q3 _ _ (by omega), q2 _ _ (by omega), q1 _ _ (by omega), q3 _ _ (by omega), q2 _ _ (by omega), q1 _ _ (by omega), q3 _ _ (by omega), q2 _ _ (by omega), q1 _ _ (by omega)]
    exact ⟨rfl, rfl, rfl⟩
  obtain ⟨c4, hc4⟩ : ∃ c4, c4 = up c2 0 12 (c2 0 10) := ⟨_, rfl⟩
  obtain ⟨r5, hr5⟩ : ∃ r5, r5 = up r4 77 9 (r4 77 63) := ⟨_, rfl⟩
  rw [← hc4, ← hr5]
  have c4x : ∀ a k, a ≠ 0 → c4 a k = c2 a k := fun a k z => by rw [hc4, up_ne z]
  have c4c : ∀ a k, a ≠ 0 → ¬ (18 ≤ a ∧ a ≤ 37) → c4 a k = c a k := fun a k z y => by rw [c4x a k z, b1 a k (by omega), a1 a k (by omega)]
  have c40 : ∀ k, k ≠ 12 → c4 0 k = c 0 k := fun k z => by rw [hc4, up_nj z, b1 _ _ (by omega), a1 _ _ (by omega)]
  have c412 : c4 0 12 = c 0 10 := by rw [hc4, up_same, b1 _ _ (by omega), a1 _ _ (by omega)]
  have r5x : ∀ a k, a ≠ 77 → r5 a k = r4 a k := fun a k z => by rw [hr5, up_ne z]
  have r57 : ∀ k, k ≠ 9 → r5 77 k = r 77 k := fun k z => by rw [hr5, up_nj z]; exact q4n _ _ (by omega)
  have r59 : r5 77 9 = r 77 63 := by rw [hr5, up_same]; exact q4n _ _ (by omega)
  have r5n : ∀ a k, a ≠ 77 → (¬ (78 ≤ a ∧ a ≤ 93) ∨ a = 88) → r5 a k = r a k := fun a k z y => by rw [r5x a k z]; exact q4n a k y
  have V : VA (tj c r) (tx c4 r5) := by
    have spl : ∀ p, VP (tj c r) p → ∃ s x : Nat, p = 24 * s + x ∧ s < 8 ∧ (x : Int) < c (56 + 1) s := by
      intro p hpv
      refine ⟨p / 24, p % 24, by omega, by have := hpv.1; omega, ?_⟩
      have := hpv.2
      rw [tjc 18 _ (by omega) (by omega)] at this
      exact this
    refine ⟨fun s hs => ⟨?_, ?_⟩, fun p hpv a ha => ?_, fun p hpv i hi => ⟨?_, ?_⟩⟩
    · rw [tjc 18 s (by omega) (by omega), ← tx_ct c4 r5 18 s (by omega) (by omega), c4x _ _ (by omega), b1 _ _ (by omega)]
      exact (a2 s hs).1
    · rw [tjr 78 s (by omega) (by omega), ← tx_rt c4 r5 78 s (by omega) (by omega), r5x _ _ (by omega)]
      exact k18 s hs
    · obtain ⟨s, x, rfl, hs, hx⟩ := spl p hpv
      rcases ha with ha | ha
      · rw [tjc a _ (by omega) (by omega), ← tx_ct c4 r5 a _ (by omega) (by omega), c4x _ _ (by omega), b1 _ _ (by omega)]
        have z := ((a2 s hs).2 x hx).1 (a - 17) (by omega) (by omega)
        rw [show 56 + (a - 17) = a + 39 by omega, show 17 + (a - 17) = a by omega] at z
        exact z
      · rw [tjr a _ (by omega) (by omega), ← tx_rt c4 r5 a _ (by omega) (by omega), r5x _ _ (by omega)]
        exact k19 a _ ha.1 ha.2 hpv.1
    · obtain ⟨s, x, rfl, hs, hx⟩ := spl p hpv
      rw [tjc 25 _ (by omega) (by omega), ← tx_ct c4 r5 25 _ (by omega) (by omega), c4x _ _ (by omega), b1 _ _ (by omega)]
      exact ((a2 s hs).2 x hx).2 i hi
    · have := hpv.1
      rw [tjr 85 _ (by omega) (by omega), ← tx_rt c4 r5 85 _ (by omega) (by omega), r5x _ _ (by omega)]
      exact k85 _ (by omega)
  have S1 : TS 65 (tj c r) c1 (ir r) := z5.2.1.cong (fun a k _ _ => a1 a k (by omega)) (fun _ _ _ _ => rfl)
  have M1 : MT 65 (tj c r) c1 := z5.2.2.1.cong (fun a k _ _ => a1 a k (by omega))
  have hrs := RS.refl hT.2.1 hT.2.2.2
  have S2 := C2.ts S1 M1 (r' := r5) (fun a k h1 h2 h3 h4 h5 => by
    unfold ir
    have : a = 86 ∨ a = 87 ∨ a = 89 ∨ a = 90 ∨ a = 91 ∨ a = 92 ∨ a = 93 := by omega
    rcases this with rfl | rfl | rfl | rfl | rfl | rfl | rfl
    · rw [if_pos (by omega), r5x _ _ (by omega)]; exact (k86 k (by omega)).1
    · rw [if_pos (by omega), r5x _ _ (by omega)]; exact (k86 k (by omega)).2.1
    · rw [if_neg (by omega), if_pos (by omega), r5x _ _ (by omega)]; exact (k86 k (by omega)).2.2.1
    · rw [if_neg (by omega), if_pos (by omega), r5x _ _ (by omega)]; exact (k86 k (by omega)).2.2.2
    · rw [if_neg (by omega), if_pos (by omega), r5x _ _ (by omega)]; exact (k91 k (h4 (by omega))).1
    · rw [if_neg (by omega), if_pos (by omega), r5x _ _ (by omega)]; exact (k91 k (h4 (by omega))).2.1
    · rw [if_neg (by omega), if_pos (by omega), r5x _ _ (by omega)]; exact (k91 k (h4 (by omega))).2.2) (fun p hp => by rw [r5n _ _ (by omega) (by omega)]; exact (hrs.1 p hp).2.2.2.2) (fun p hp => by rw [a1 _ _ (by omega)]; exact (z5.2.2.2 p hp).1)
  have hTS : TS 26 (tx c4 r5) c4 r5 := (V.ts XJ.1 S2.1).cong (fun a k _ _ => c4x a k (by omega)) (fun _ _ _ _ => rfl)
  have hMT : MT 26 (tx c4 r5) c4 := (V.mt S2.2).cong (fun a k _ _ => c4x a k (by omega))
  have hID : ID 26 c4 := fun p hp => ⟨by rw [c4x _ _ (by omega)]; exact (C2.2.2.1 p hp).2.2.2.1, fun i hi => by rw [c4x _ _ (by omega), (C2.2.2.1 p hp).2.2.2.2.2.2.2.1 i hi, a1 _ _ (by omega)]; exact (z5.2.2.2 p hp).2 i hi⟩
  have hXT := V.xt XJ
  have hp4 : ∀ s : Nat, s < 8 → (0 ≤ c4 18 s ∧ c4 18 s ≤ 24) ∧ r5 78 s = c4 18 s := fun s hs => by
    have h := hXT.1.1 s hs
    rw [← tx_ct c4 r5 18 s (by omega) (by omega), ← tx_rt c4 r5 78 s (by omega) (by omega)] at h
    omega
  obtain ⟨v, v1, v2⟩ := fills (N := N) (by omega) hp4
  refine Two.cL v1 ?_
  refine Two.cR v2 ?_
  refine Two.ret rfl ⟨⟨H.1.cong (c4c _ _ (by omega) (by omega)) (fun k => c4c _ _ (by omega) (by omega)) (r57 _ (by omega)) (fun k => r5n _ _ (by omega) (by omega)), ⟨hXT, hTS, hMT, hID⟩, ⟨H.2.2.1.1.cong (fun a k _ _ => c4c a k (by omega) (by omega)), H.2.2.1.2.cong (fun a k _ _ => c4c a k (by omega) (by omega))⟩, H.2.2.2.1.cong (fun a k _ _ => c4c a k (by omega) (by omega)) (c40 _ (by omega)) (c40 _ (by omega)) (fun a k _ _ => r5n a k (by omega) (by omega)) (r57 _ (by omega)) (r57 _ (by omega)), H.2.2.2.2.1.cong (fun a k _ _ => c4c a k (by omega) (by omega)) (fun a k _ _ => r5n a k (by omega) (by omega)), ⟨by rw [r59, c412]; exact z2, by rw [c412]; exact z3, by rw [c412]; exact z4⟩, H.2.2.2.2.2.2.cong (c40 _ (by omega)) (r57 _ (by omega))⟩, fun a k _ => c4c a k (by omega) (by omega), fun a k _ => r5n a k (by omega) (by omega)⟩
