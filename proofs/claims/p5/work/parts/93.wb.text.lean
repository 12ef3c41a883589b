def TextR (N : Nat) : Prop := ∀ (c r : St) (a0 : Int), r32 a0 → RG c r → Two (d_x7_text N c a0) (d_x8_text N r a0) (QG c r)
theorem QG.read {c r c2 r2 : St} (H : RG c r) (ec : ∀ a k, ¬ (1 ≤ a ∧ a ≤ 14) → c2 a k = c a k) (er : ∀ a k, ¬ (a = 77 ∧ 19 ≤ k ∧ k ≤ 26) → ¬ (95 ≤ a ∧ a ≤ 101) → r2 a k = r a k) (h1 : c2 1 1 = 0) (g1 : r2 77 19 = 0) (v : Int) : QG c r c2 r2 v := by
  refine ⟨⟨?_, H.2.1.cong (fun a k _ _ => ec a k (by omega)) (fun a k _ _ => er a k (by omega) (by omega)), ⟨H.2.2.1.1.cong (fun a k _ _ => ec a k (by omega)), H.2.2.1.2.cong (fun a k _ _ => ec a k (by omega))⟩, H.2.2.2.1.cong (fun a k _ _ => ec a k (by omega)) (ec _ _ (by omega)) (ec _ _ (by omega)) (fun a k _ _ => er a k (by omega) (by omega)) (er _ _ (by omega) (by omega)) (er _ _ (by omega) (by omega)), H.2.2.2.2.1.cong (fun a k _ _ => ec a k (by omega)) (fun a k _ _ => er a k (by omega) (by omega)), H.2.2.2.2.2.1.cong (ec _ _ (by omega)) (er _ _ (by omega) (by omega)), H.2.2.2.2.2.2.cong (ec _ _ (by omega)) (er _ _ (by omega) (by omega))⟩, fun a k _ => ec a k (by omega), fun a k _ => er a k (by omega) (by omega)⟩
  unfold RT
  rw [h1, g1]
  exact ⟨rfl, by omega, by omega, fun i hi => by omega⟩
/-- a text that was refused, on both sides -/
theorem t_bad {N : Nat} {x : Int} {c r c2 r2 : St} {K : St → Int → Option Rs} (H : RG c r) (B : bad c2 r2) (ec : ∀ a k, ¬ (1 ≤ a ∧ a ≤ 14) → c2 a k = c a k) (er : ∀ a k, ¬ (a = 77 ∧ 19 ≤ k ∧ k ≤ 26) → ¬ (95 ≤ a ∧ a ≤ 101) → r2 a k = r a k) : Two (bI (bye c2) fun s3 v4 => (if 0 < (w32 v4) then K s3 v4 else some (s3, v4))) (d_x8_text_51 N r2 x) (QG c r) := by
  have b := B.2
  have b1 := B.1
  unfold bye d_x8_text_51
  refine Two.cL rfl (Two.eL ?_ ?_)
  · rw [w32i (x := -100 - c2 1 7) (by omega) (by omega)]
    omega
  refine Two.bdR (Two.eR ?_ ?_)
  · rw [up_nj (by decide), B.2.2.2]
    decide
  refine Two.ret ?_ (QG.read H (fun a k h => ?_) (fun a k h1 h2 => ?_) up_same up_same _)
  · rw [up_nj (by decide), ← b1]
  · rw [up_o (by omega)]
    exact ec a k h
  · rw [up_o (by omega)]
    exact er a k h1 h2
/-- text() -/
theorem t_text {N : Nat} (hN : 20000 ≤ N) : TextR N := by
  intro c r a0 h0 H
  unfold d_x7_text d_x8_text
  by_cases hs : 0 ≤ a0 ∧ a0 < 8
  · refine Two.cL (S7t h0 hs) (Two.eL (by decide) ?_)
    refine Two.cR (S8t h0 hs) (Two.eR (by decide) ?_)
    obtain ⟨s, rfl⟩ : ∃ s : Nat, a0 = s := ⟨a0.toNat, by omega⟩
    have hs8 : s < 8 := by omega
    have hT := H.1
    unfold RT at hT
    obtain ⟨z, hz⟩ : ∃ z : Nat, c 1 1 = z := ⟨(c 1 1).toNat, by omega⟩
    rw [hz] at hT
    obtain ⟨b, hb⟩ : ∃ b : Nat → Int, ∀ i, c 11 i = b i := ⟨fun i => c 11 i, fun _ => rfl⟩
    obtain ⟨c1, v1, e1, n, Q⟩ := e_splitT (N := N) (by omega) hb (fun i hi => by rw [← hb]; exact (hT.2.2.2 i (by omega)).2) ⟨hz, by omega⟩
    have A : d_x2_readTape N c = LL N N (up (up c1 1 6 0) 1 7 (-1)) 0 (0 + 1) := by
      unfold d_x2_readTape
      rw [e1, bV_some, bd_eq, bd_eq]
      rfl
    have Mr : MB (up (up (up r 77 20 0) 77 24 0) 77 26 0) b z := by
      refine ⟨?_, by omega, fun i hi => ?_⟩
      · rw [up_nj (by decide), up_nj (by decide), up_nj (by decide)]
        exact hT.1
      · rw [up_ne (by decide), up_ne (by decide), up_ne (by decide), ← hb]
        exact hT.2.2.2 i (by omega)
    obtain ⟨r0, v0, m1, m2, m3⟩ : One (d_x8_next N (up (up (up r 77 20 0) 77 24 0) 77 26 0)) (fun r' _ => TKM r' b z 0 ∧ NF (up (up (up r 77 20 0) 77 24 0) 77 26 0) r') := m_next (N := N) (by omega) (j := 0) z N 0 _ (by omega) (by omega) Mr (by rw [up_nj (by decide), up_nj (by decide), up_same]; rfl) rfl
    have T1 : TB c1 b z n := ⟨Q.1.2, Q.2.2.1, Q.2.1, Q.2.2.2.1, Q.2.2.2.2.1, Q.2.2.2.2.2, fun i hi => (Q.1.1 11 i (by omega)).trans (hb i)⟩
    have H0 : RD (up (up c1 1 6 0) 1 7 (-1)) r0 b z n 0 := ⟨T1.cong (fun a k h1 h2 => by rw [up_ne (by omega), up_ne (by omega)]), Mr.nf m3, by rw [up_nj (by decide), up_same]; rfl, Nat.zero_le _⟩
    have G0 : gd (up (up c1 1 6 0) 1 7 (-1)) r0 b z 0 := ⟨up_same, by rw [m3 77 24 (by omega), up_nj (by decide), up_same], m2⟩
    obtain ⟨r1, w1, g1, g2⟩ := r_rows (N := N) (by omega) 30 0 0 _ r0 (by omega) (by omega) H0 G0 (by rw [m3 77 26 (by omega), up_same]; rfl)
    have fc0 : ∀ a k, ¬ (1 ≤ a ∧ a ≤ 14) → up (up c1 1 6 0) 1 7 (-1) a k = c a k := fun a k h => by
      rw [up_ne (by omega), up_ne (by omega)]
      exact Q.1.1 a k (by omega)
    have fm0 : ∀ a k, ¬ (a = 77 ∧ 19 ≤ k ∧ k ≤ 26) → r0 a k = r a k := fun a k h => by
      rw [m3 a k (by omega), up_o (by omega), up_o (by omega), up_o (by omega)]
    refine Two.bdR (Two.bdR (Two.bdR (Two.vR m1 (Two.vR g1 ?_))))
    rw [A]
    rcases g2 with ⟨c2, x2, j2, x1, x24, hj, H2, G2, h26, fc, fm, RW, h97, tok, ll⟩ | ⟨c2, j2, H2, B2, fc, fm, ll⟩
    · have fc2 : ∀ a k, ¬ (1 ≤ a ∧ a ≤ 14) → c2 a k = c a k := fun a k h => (fc a k (by omega) (by omega) (by omega)).trans (fc0 a k h)
      have fm2 : ∀ a k, ¬ (a = 77 ∧ 19 ≤ k ∧ k ≤ 26) → ¬ (95 ≤ a ∧ a ≤ 101) → r1 a k = r a k := fun a k h1 h2 => (fm a k (by omega) (by omega) (by omega)).trans (fm0 a k h1)
      have S := H2.sort G2
      have R := H2.rng
      have stop : LL N N c2 x2 0 = (if c2 13 j2 = 0 then d_x2_readTape_84 N c2 (x2 : Int) else d_x2_readTape_80 N c2 (x2 : Int)) := by
        obtain ⟨m, hm⟩ : ∃ m, N - x2 = m + 1 := ⟨N - x2 - 1, by omega⟩
        have e64 : d_x2_readTape_64 N c2 (x2 : Int) ((0 : Nat) : Int) = (if c2 13 j2 = 0 then d_x2_readTape_84 N c2 (x2 : Int) else d_x2_readTape_80 N c2 (x2 : Int)) := by
          unfold d_x2_readTape_64
          rw [if_neg (by decide), H2.2.2.1, w32i (x := (j2 : Int)) (by omega) (by omega), if_pos (by omega), Int.toNat_natCast, w32i (x := c2 13 j2) (by omega) (by omega)]
        unfold LL
        rw [hm]
        show d_x2_readTape_18 N (d_x2_readTape_18L N m) c2 (x2 : Int) ((0 : Nat) : Int) = _
        unfold d_x2_readTape_18
        rw [if_neg (show ¬ 0 < w32 ((0 : Nat) : Int) by decide), e64]
        split <;> rfl
      rw [ll 0 N (by omega) (by omega), stop]
      refine Two.iR (by rw [G2.2.1]; exact w32_0) ?_
      by_cases q : c2 13 j2 = 0
      · rw [if_pos q]
        refine Two.iR (by rw [w32i (x := r1 77 21) (by omega) (by omega)]; omega) ?_
        obtain ⟨c3, v3, k1, k2, k3, k4⟩ := e_close (N := N) (n := x2) (by omega) ⟨by omega, by omega⟩ (c := up c2 1 1 0) (sp := sp97 r1) (fun p hp => by rw [up_ne (by decide)]; exact (RW p (by omega) hp).2.1) (fun p hp => (RW p (by omega) hp).2.2.1.cong (x := 0) (by omega) (up_ne (by decide)) (fun _ _ _ => rfl))
        obtain ⟨c4, v4, l1, l2, l3, l4⟩ := e_tkR (N := N) hs8 k2 x24
        obtain ⟨r3, p1, p2, p3⟩ := m_copy (N := N) (s := s) (n := x2) (by omega) hs8 x24 x2 N 0 (up (up r1 77 19 0) 78 s (x2 : Int)) (by omega) (by omega) (by rw [up_ne (by decide), up_nj (by decide)]; exact h26)
        have e84 : d_x2_readTape_84 N c2 (x2 : Int) = some (c3, (x2 : Int)) := by
          unfold d_x2_readTape_84
          rw [bd_eq, up_nj (show (7 : Nat) ≠ 1 by decide), G2.1, if_pos (by decide), k1, bV_some]
        -- cells of both texts
        have kc : ∀ a k, ¬ (a = 1 ∧ k = 1) → ¬ (a = 3 ∧ k = 0) → ¬ (a = 8 ∧ k < x2) → c3 a k = c2 a k := fun a k h1 h2 h3 => by
          rw [k4 a k h2 h3, up_o h1]
        have ec4 : ∀ a k, ¬ ((1 ≤ a ∧ a ≤ 14) ∨ (18 ≤ a ∧ a ≤ 25)) → c4 a k = c a k := fun a k h => by
          rw [l4 a k (by omega) (by omega) (by omega), kc a k (by omega) (by omega) (by omega)]
          exact fc2 a k (by omega)
        have er3 : ∀ a k, ¬ (a = 77 ∧ 19 ≤ k ∧ k ≤ 26) → ¬ (78 ≤ a ∧ a ≤ 85) → ¬ (95 ≤ a ∧ a ≤ 101) → r3 a k = r a k := fun a k h1 h2 h3 => by
          rw [p3 a k (by omega) (by omega), up_o (by omega), up_o (by omega)]
          exact fm2 a k h1 h3
        have r95 : ∀ a k, 95 ≤ a → up (up r1 77 19 0) 78 s (x2 : Int) a k = r1 a k := fun a k h => by rw [up_ne (by omega), up_ne (by omega)]
        have TC : ∀ a k, 18 ≤ a → a ≤ 25 → tx c4 r3 a k = c4 a k := fun a k h1 h2 => (tx_ct c4 r3 a k h1 h2).symm
        have TM : ∀ a k, 78 ≤ a → a ≤ 85 → tx c4 r3 a k = r3 a k := fun a k h1 h2 => (tx_rt c4 r3 a k h1 h2).symm
        have e18 : tx c4 r3 18 s = (x2 : Int) := by rw [TC 18 s (by omega) (by omega)]; exact l2
        have e78 : tx c4 r3 78 s = (x2 : Int) := by rw [TM 78 s (by omega) (by omega), p3 78 s (by omega) (by omega), up_same]
        have a19 : ∀ p, p < x2 → tx c4 r3 19 (24 * s + p) = c2 4 p ∧ tx c4 r3 20 (24 * s + p) = c2 5 p ∧ tx c4 r3 21 (24 * s + p) = c2 6 p ∧ tx c4 r3 22 (24 * s + p) = c2 7 p ∧ tx c4 r3 24 (24 * s + p) = c2 9 p := fun p hp => by
          have l := (l3 p hp).1
          rw [TC 19 _ (by omega) (by omega), TC 20 _ (by omega) (by omega), TC 21 _ (by omega) (by omega), TC 22 _ (by omega) (by omega), TC 24 _ (by omega) (by omega), l.1, l.2.1, l.2.2.1, l.2.2.2.1, l.2.2.2.2.2, kc 4 p (by omega) (by omega) (by omega), kc 5 p (by omega) (by omega) (by omega), kc 6 p (by omega) (by omega) (by omega), kc 7 p (by omega) (by omega) (by omega), kc 9 p (by omega) (by omega) (by omega)]
          exact ⟨rfl, rfl, rfl, rfl, rfl⟩
        have a23 : ∀ p, p < x2 → tx c4 r3 23 (24 * s + p) = (sp97 r1 p : Nat) := fun p hp => by
          rw [TC 23 _ (by omega) (by omega), (l3 p hp).1.2.2.2.2.1]
          exact k3 p hp
        have a25 : ∀ p, p < x2 → ∀ l, l < 8 → tx c4 r3 25 (8 * (24 * s + p) + l) = c2 10 (8 * p + l) := fun p hp l hl => by
          rw [TC 25 _ (by omega) (by omega), (l3 p hp).2 l hl, kc 10 _ (by omega) (by omega) (by omega)]
        have a79 : ∀ p, p < x2 → tx c4 r3 79 (24 * s + p) = r1 95 p ∧ tx c4 r3 80 (24 * s + p) = r1 96 p ∧ tx c4 r3 81 (24 * s + p) = r1 97 p ∧ tx c4 r3 82 (24 * s + p) = r1 98 p ∧ tx c4 r3 83 (24 * s + p) = r1 99 p ∧ tx c4 r3 84 (24 * s + p) = r1 100 p := fun p hp => by
          have l := (p2 p (by omega) hp).1
          rw [r95 95 p (by omega), r95 96 p (by omega), r95 97 p (by omega), r95 98 p (by omega), r95 99 p (by omega), r95 100 p (by omega)] at l
          rw [TM 79 _ (by omega) (by omega), TM 80 _ (by omega) (by omega), TM 81 _ (by omega) (by omega), TM 82 _ (by omega) (by omega), TM 83 _ (by omega) (by omega), TM 84 _ (by omega) (by omega)]
          exact l
        have a85 : ∀ p, p < x2 → ∀ l, l < 8 → tx c4 r3 85 (8 * (24 * s + p) + l) = r1 101 (8 * p + l) := fun p hp l hl => by
          rw [TM 85 _ (by omega) (by omega), (p2 p (by omega) hp).2 l hl, r95 101 _ (by omega)]
        have P : PW (tx c4 r3) s := by
          left
          rw [e18, Int.toNat_natCast]
          refine ⟨?_, fun k hk h2 i hi => ?_⟩
          · rw [sm_congr (f := fun k => tk (tx c4 r3) (24 * s + k)) (g := fun k => tkc (c2 4 k) (c2 9 k)) x2 (fun k hk => by
              show tk (tx c4 r3) (24 * s + k) = _
              rw [tk_tkc, (a19 k hk).1, (a19 k hk).2.2.2.2])]
            have t0 : SMC (up (up c1 1 6 0) 1 7 (-1)) 0 = 0 := rfl
            have jn := H2.2.2.2
            have nz := H2.1.2.2.1
            rw [t0] at tok
            show SMC c2 x2 ≤ 120
            omega
          · have hk' : k < x2 := by omega
            rw [(a19 k hk').1] at h2
            rw [(a19 k hk').2.2.2.2] at hi
            have pk := (RW k (by omega) hk').1
            have ko := pk.2.1
            unfold KO at ko
            have i8 := ko.2.2.2.1 h2
            rw [a25 k hk' i (by omega)]
            exact (pk.2.2.2 h2 i hi).2
        have X : XT (tx c4 r3) := by
          refine H.2.1.1.put (s := s) (n := x2) hs8 x24 ⟨e18, e78⟩ (fun q hq => WFp.put hs8 hq x24 e18 (a19 q hq) (a25 q hq) (a79 q hq) (a85 q hq) a23 RW) P (fun a ha ne => ?_) (fun a q ha hq ne => ?_) (fun a q i ha hq ne hi => ?_)
          · constructor
            · refine tx_pt (fun _ => ?_) (fun y => by omega)
              rw [l4 18 a (by omega) (by omega) (by omega), kc 18 a (by omega) (by omega) (by omega)]
              exact fc2 18 a (by omega)
            · refine tx_pt (fun y => by omega) (fun _ => ?_)
              rw [p3 78 a (by omega) (by omega), up_nj (by omega), up_ne (by decide)]
              exact fm2 78 a (by omega) (by omega)
          · refine tx_pt (fun y => ?_) (fun y => ?_)
            · rw [l4 a q (by omega) (by omega) (by omega), kc a q (by omega) (by omega) (by omega)]
              exact fc2 a q (by omega)
            · rw [p3 a q (by omega) (by omega), up_o (by omega), up_ne (by omega)]
              exact fm2 a q (by omega) (by omega)
          · refine tx_pt (fun y => ?_) (fun y => ?_)
            · rw [l4 a _ (by omega) (by omega) (by omega), kc a _ (by omega) (by omega) (by omega)]
              exact fc2 a _ (by omega)
            · rw [p3 a _ (by omega) (by omega), up_o (by omega), up_ne (by omega)]
              exact fm2 a _ (by omega) (by omega)
        have c11 : c4 1 1 = 0 := by
          rw [l4 1 1 (by omega) (by omega) (by omega), k4 1 1 (by omega) (by omega), up_same]
        have r19 : r3 77 19 = 0 := by
          rw [p3 77 19 (by omega) (by omega), up_ne (by decide), up_same]
        have RT4 : RT c4 r3 := by
          unfold RT
          rw [c11, r19]
          exact ⟨rfl, by omega, by omega, fun i hi => by omega⟩
        obtain ⟨c5, r5, w5, w6, u1, u2, uq⟩ := S_unt (N := N) (by omega) (c1 := c4) (r1 := r3) H ec4 (fun a k h1 h2 => er3 a k (by omega) (by omega) (by omega)) (fun k h => er3 77 k (by omega) (by omega) (by omega)) RT4 X
        obtain ⟨r6, w7, u3, _, u4⟩ := e_untells (N := N) (by omega) r3
        rw [u2] at u3
        have e56 : r5 = r6 := congrArg (fun y => (y.getD (r5, 0)).1) u3
        have r26 : r5 77 26 = (x2 : Int) := by
          rw [e56, u4 77 26 (by omega), p3 77 26 (by omega) (by omega), up_ne (by decide), up_nj (by decide)]
          exact h26
        have p1' : d_x8_text_83L N N (up (up r1 77 19 0) 78 s (x2 : Int)) (s : Int) 0 = some (r5, (x2 : Int)) := by
          have y : d_x8_text_83L N N (up (up r1 77 19 0) 78 s (x2 : Int)) (s : Int) 0 = (bV (d_x8_untells N r3) fun s4 => some (s4, (s4 77 26))) := p1
          rw [y, u2, bV_some, r26]
        have B : d_x8_text_51 N r1 (s : Int) = some (r5, (x2 : Int)) := by
          unfold d_x8_text_51
          rw [bd_eq, up_nj (show (24 : Nat) ≠ 19 by decide), G2.2.1, if_pos w32_0, w32i (x := (s : Int)) (by omega) (by omega), if_pos (by omega), bd_eq, Int.toNat_natCast, up_nj (show (26 : Nat) ≠ 19 by decide), h26]
          exact p1'
        rw [e84, B]
        refine Two.cL rfl (Two.iL (by rw [w32i (x := (x2 : Int)) (by omega) (by omega)]; omega) (Two.vL l1 (Two.vL u1 ?_)))
        exact Two.ret rfl (uq _)
      · rw [if_neg q]
        refine Two.eR (by rw [w32i (x := r1 77 21) (by omega) (by omega)]; omega) ?_
        obtain ⟨c3, r3, v, w, y1, y2, y3, y4, y5, y6⟩ := H2.miss (N := N) (Or.inl G2)
        unfold d_x2_readTape_80
        rw [y1, bV_some, e_84b y4]
        refine Two.vR y2 ?_
        exact t_bad H y4 (fun a k h => (y5 a k (by omega)).trans (fc2 a k h)) (fun a k h1 h2 => (y6 a k (by omega)).trans (fm2 a k h1 h2))
    · rw [ll 0 N (by omega) (by omega)]
      refine Two.eR (by rw [B2.2.2.2]; decide) ?_
      exact t_bad H B2 (fun a k h => (fc a k (by omega) (by omega) (by omega)).trans (fc0 a k h)) (fun a k h1 h2 => (fm a k (by omega) (by omega) (by omega)).trans (fm0 a k h1))
  · refine Two.cL (S7f h0 hs) (Two.iL (by decide) ?_)
    refine Two.cR (S8f h0 hs) (Two.iR (by decide) ?_)
    exact Two.ret rfl (QG.refl H _)
