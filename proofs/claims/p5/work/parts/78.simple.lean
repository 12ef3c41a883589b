theorem tx_pt {c c' r r' : St} {a k : Nat} (h1 : (18 ≤ a ∧ a ≤ 25) → c' a k = c a k) (h2 : (78 ≤ a ∧ a ≤ 85) → r' a k = r a k) : tx c' r' a k = tx c r a k := by
  unfold tx
  by_cases e1 : 18 ≤ a ∧ a ≤ 25
  · rw [if_pos e1, if_pos e1]; exact h1 e1
  · rw [if_neg e1, if_neg e1]
    by_cases e2 : 78 ≤ a ∧ a ≤ 85
    · rw [if_pos e2, if_pos e2]; exact h2 e2
    · rw [if_neg e2, if_neg e2]
/-- a text has changed: all is untold -/
theorem S_unt {N : Nat} (hN : 200 ≤ N) {c r c1 r1 : St} (H : RG c r) (ec : ∀ a k, ¬ ((1 ≤ a ∧ a ≤ 14) ∨ (18 ≤ a ∧ a ≤ 25)) → c1 a k = c a k) (er : ∀ a k, ¬ (77 ≤ a ∧ a ≤ 85) → ¬ (94 ≤ a ∧ a ≤ 101) → r1 a k = r a k) (er7 : ∀ k, (k = 9 ∨ k = 39 ∨ k = 63 ∨ k = 64) → r1 77 k = r 77 k) (hT : RT c1 r1) (X : XT (tx c1 r1)) : ∃ c2 r2 w w', d_x6_untell N 26 c1 = some (c2, w) ∧ d_x8_untells N r1 = some (r2, w') ∧ ∀ v, QG c r c2 r2 v := by
  have hU : UT 26 c1 := (UT.of H.2.1.2.2.1 H.2.1.2.1).cong (fun a k _ _ => ec a k (by omega))
  obtain ⟨c2, w, e1, Z1, f1, f8, f9⟩ := e_untell (N := N) hN hU
  obtain ⟨r2, w', e2, Z2, g1⟩ := e_untells (N := N) hN r1
  have hkb : KB 26 c2 := fun k hk => by rw [f9]; exact hU.2.2.2.1 k hk
  have htx : tx c2 r2 = tx c1 r1 := tx_cong (fun a k _ _ => f1 a k (by omega)) (fun a k _ _ => g1 a k (by omega))
  have hts := Z1.ts (T := tx c1 r1) Z2 hkb
  have ec2 : ∀ a k, ¬ ((1 ≤ a ∧ a ≤ 14) ∨ (18 ≤ a ∧ a ≤ 37)) → c2 a k = c a k := fun a k z => (f1 a k (by omega)).trans (ec a k (by omega))
  have er2 : ∀ a k, ¬ (77 ≤ a ∧ a ≤ 91) → ¬ (94 ≤ a ∧ a ≤ 101) → r2 a k = r a k := fun a k z y => (g1 a k (by omega)).trans (er a k (by omega) y)
  have er7' : ∀ k, (k = 9 ∨ k = 39 ∨ k = 63 ∨ k = 64) → r2 77 k = r 77 k := fun k z => (g1 _ _ (by omega)).trans (er7 k z)
  refine ⟨c2, r2, w, w', e1, e2, fun v => ⟨⟨hT.cong (f1 _ _ (by omega)) (fun k => f1 _ _ (by omega)) (g1 _ _ (by omega)) (fun k => g1 _ _ (by omega)), ?_, ⟨H.2.2.1.1.cong (fun a k _ _ => ec2 a k (by omega)), H.2.2.1.2.cong (fun a k _ _ => ec2 a k (by omega))⟩, H.2.2.2.1.cong (fun a k _ _ => ec2 a k (by omega)) (ec2 _ _ (by omega)) (ec2 _ _ (by omega)) (fun a k _ _ => er2 a k (by omega) (by omega)) (er7' _ (by omega)) (er7' _ (by omega)), H.2.2.2.2.1.cong (fun a k _ _ => ec2 a k (by omega)) (fun a k _ _ => er2 a k (by omega) (by omega)), H.2.2.2.2.2.1.cong (ec2 _ _ (by omega)) (er7' _ (by omega)), H.2.2.2.2.2.2.cong (ec2 _ _ (by omega)) (er7' _ (by omega))⟩, fun a k _ => ec2 a k (by omega), fun a k _ => er2 a k (by omega) (by omega)⟩⟩
  unfold TT
  rw [htx]
  exact ⟨X, hts.1, hts.2, fun p hp => ⟨(Z1.2 p hp).2.2.2.1, fun i hi => by rw [(Z1.2 p hp).2.2.2.2.2.2.2 i hi]; decide⟩⟩
/-- feed() -/
theorem r_feed {N : Nat} {c r : St} {a0 : Int} (h0 : r32 a0) (H : RG c r) : Two (d_x7_feed N c a0) (d_x8_feed N r a0) (QG c r) := by
  have hT := H.1
  unfold RT at hT
  unfold d_x7_feed d_x8_feed
  by_cases hi : 0 ≤ a0 ∧ a0 ≤ 255
  · refine Two.cR (int h0 (by unfold r32; omega) (by unfold r32; omega) hi) (Two.eR (by decide) ?_)
    refine Two.eL (by rw [w32r h0]; omega) (Two.eL (by rw [w32r h0]; omega) ?_)
    unfold d_x2_addByte
    obtain ⟨n, hn⟩ : ∃ n : Nat, c 1 1 = n := ⟨(c 1 1).toNat, by omega⟩
    rw [hT.1, hn, w32i (x := (n : Int)) (by omega) (by omega)]
    by_cases hf : n = 120
    · refine Two.iR (by omega) ?_
      rw [if_neg (by omega)]
      exact Two.ret rfl (QG.refl H _)
    · refine Two.eR (by omega) (Two.iR (by omega) (Two.bdR (Two.bdR ?_)))
      rw [if_pos (by omega), if_pos (by omega), bd_eq, bd_eq, Int.toNat_natCast, up_ne (s := c) (a := 11) (by omega), hn, up_ne (s := r) (a := 94) (by omega), hT.1, hn]
      refine Two.cL rfl ?_
      refine Two.ret (by rw [up_same, up_same]) ⟨⟨?_, H.2.1.cong (fun a k _ _ => by rw [up_ne (by omega), up_ne (by omega)]) (fun a k _ _ => by rw [up_ne (by omega), up_ne (by omega)]), ⟨H.2.2.1.1.cong (fun a k _ _ => by rw [up_ne (by omega), up_ne (by omega)]), H.2.2.1.2.cong (fun a k _ _ => by rw [up_ne (by omega), up_ne (by omega)])⟩, H.2.2.2.1.cong (fun a k _ _ => by rw [up_ne (by omega), up_ne (by omega)]) (by rw [up_ne (by omega), up_ne (by omega)]) (by rw [up_ne (by omega), up_ne (by omega)]) (fun a k _ _ => by rw [up_ne (by omega), up_ne (by omega)]) (by rw [up_nj (by omega), up_ne (by omega)]) (by rw [up_nj (by omega), up_ne (by omega)]), H.2.2.2.2.1.cong (fun a k _ _ => by rw [up_ne (by omega), up_ne (by omega)]) (fun a k _ _ => by rw [up_ne (by omega), up_ne (by omega)]), H.2.2.2.2.2.1.cong (by rw [up_ne (by omega), up_ne (by omega)]) (by rw [up_nj (by omega), up_ne (by omega)]), H.2.2.2.2.2.2.cong (by rw [up_ne (by omega), up_ne (by omega)]) (by rw [up_nj (by omega), up_ne (by omega)])⟩, fun a k _ => by rw [up_ne (by omega), up_ne (by omega)], fun a k _ => by rw [up_ne (by omega), up_ne (by omega)]⟩
      unfold RT
      rw [up_same, up_same]
      refine ⟨rfl, by omega, by omega, fun i hi' => ?_⟩
      rw [up_ne (a := 77) (b := 94) (by omega), up_ne (a := 1) (b := 11) (by omega)]
      by_cases e : i = n
      · subst e
        rw [up_same, up_same]
        omega
      · rw [up_nj e, up_nj e]
        exact hT.2.2.2 i (by omega)
  · refine Two.cR (inf h0 (by unfold r32; omega) (by unfold r32; omega) hi) (Two.iR (by decide) ?_)
    by_cases hn : a0 < 0
    · refine Two.iL (by rw [w32r h0]; exact hn) ?_
      exact Two.ret rfl (QG.refl H _)
    · refine Two.eL (by rw [w32r h0]; exact hn) (Two.iL (by rw [w32r h0]; omega) ?_)
      exact Two.ret rfl (QG.refl H _)
theorem XT.empty {T T' : St} (X : XT T) {s : Nat} (e0 : T' 18 s = 0 ∧ T' 78 s = 0) (e : ∀ a k, ¬ ((a = 18 ∨ a = 78) ∧ k = s) → T' a k = T a k) : XT T' := by
  have hvp : ∀ p, VP T' p → p / 24 ≠ s ∧ VP T p := by
    intro p hp
    unfold VP at *
    by_cases h : p / 24 = s
    · rw [h, e0.1] at hp
      omega
    · rw [e 18 _ (by omega)] at hp
      exact ⟨h, hp⟩
  have hvp2 : ∀ p q, p / 24 ≠ s → q / 24 = p / 24 → VP T q → VP T' q := by
    intro p q h1 h2 hq
    unfold VP at *
    rw [e 18 _ (by omega)]
    exact hq
  refine ⟨⟨fun a ha => ?_, fun p hp => ?_⟩, fun a ha => ?_⟩
  · by_cases h : a = s
    · subst h
      rw [e0.1, e0.2]
      omega
    · rw [e 18 a (by omega), e 78 a (by omega)]
      exact X.1.1 a ha
  · obtain ⟨h1, h2⟩ := hvp p hp
    have w := X.1.2 p h2
    have ee : ∀ a k, 19 ≤ a → a ≠ 78 → T' a k = T a k := fun a k x y => e a k (by omega)
    unfold WFp at *
    simp (disch := omega) only [ee]
    obtain ⟨w1, w2, w3, w4, w5, w6, w7, w8, w9, w10, w11, w12, w13⟩ := w
    exact ⟨w1, w2, w3, w4, w5, w6, w7, w8, w9, w10, w11, fun z => ⟨hvp2 p _ h1 (w12 z).2 (w12 z).1, (w12 z).2⟩, fun z => ⟨hvp2 p _ h1 (w13 z).2 (w13 z).1, (w13 z).2⟩⟩
  · by_cases h : a = s
    · subst h
      unfold PW
      rw [e0.1]
      left
      refine ⟨by show (0 : Int) ≤ 120; decide, fun k hk => by omega⟩
    · have w := X.2 a ha
      have ee : ∀ a k, 19 ≤ a → a ≠ 78 → T' a k = T a k := fun a k x y => e a k (by omega)
      have e18 : T' 18 a = T 18 a := e 18 a (by omega)
      unfold PW tk at *
      rw [e18]
      simp (disch := omega) only [ee]
      exact w
/-- empty() -/
theorem r_empty {N : Nat} (hN : 200 ≤ N) {c r : St} {a0 : Int} (h0 : r32 a0) (H : RG c r) : Two (d_x7_empty N c a0) (d_x8_empty N r a0) (QG c r) := by
  unfold d_x7_empty d_x8_empty
  by_cases hs : 0 ≤ a0 ∧ a0 < 8
  · refine Two.cL (S7t h0 hs) (Two.eL (by decide) ?_)
    refine Two.cR (S8t h0 hs) (Two.eR (by decide) ?_)
    obtain ⟨s, rfl⟩ : ∃ s : Nat, a0 = s := ⟨a0.toNat, by omega⟩
    have hps := H.p18 s (by omega)
    refine Two.iL (by ((try simp (disch := omega) only [w32i, Int.toNat_natCast]) <;> omega)) (Two.bdL (Two.iL (by ((try simp (disch := omega) only [w32i, Int.toNat_natCast]) <;> omega)) (Two.bdL ?_)))
    refine Two.iR (by ((try simp (disch := omega) only [w32i, Int.toNat_natCast]) <;> omega)) (Two.bdR (Two.iR (by ((try simp (disch := omega) only [w32i, Int.toNat_natCast]) <;> omega)) (Two.bdR ?_)))
    rw [w32i (x := (s : Int)) (by omega) (by omega), Int.toNat_natCast]
    have hX : XT (tx (up c 18 s 0) (up r 78 s 0)) := by
      refine H.2.1.1.empty (s := s) ⟨?_, ?_⟩ (fun a k z => ?_)
      · rw [← tx_ct _ _ 18 s (by omega) (by omega), up_same]
      · rw [← tx_rt _ _ 78 s (by omega) (by omega), up_same]
      · exact tx_pt (fun _ => by rw [up_app, if_neg (by omega)]) (fun _ => by rw [up_app, if_neg (by omega)])
    obtain ⟨c2, r2, w, w', e1, e2, q⟩ := S_unt hN (c1 := up c 18 s 0) (r1 := up r 78 s 0) H (fun a k z => up_ne (by omega)) (fun a k z y => up_ne (by omega)) (fun k z => up_ne (by omega)) (H.1.cong (up_ne (by omega)) (fun k => up_ne (by omega)) (up_ne (by omega)) (fun k => up_ne (by omega))) hX
    refine Two.vL e1 ?_
    refine Two.vR e2 ?_
    exact Two.ret hps.2 (q _)
  · refine Two.cL (S7f h0 hs) (Two.iL (by decide) ?_)
    refine Two.cR (S8f h0 hs) (Two.iR (by decide) ?_)
    exact Two.ret rfl (QG.refl H _)
theorem tx_tv {c r : St} {p : Nat} {v : Int} : tx (up c 21 p v) (up r 82 p v) = tv (tx c r) p v := by
  funext a k
  by_cases e : (a = 21 ∨ a = 82) ∧ k = p
  · obtain ⟨rfl | rfl, rfl⟩ := e
    · rw [tv_p (Or.inl rfl), ← tx_ct _ _ 21 k (by omega) (by omega), up_same]
    · rw [tv_p (Or.inr rfl), ← tx_rt _ _ 82 k (by omega) (by omega), up_same]
  · rw [tv_ne e]
    exact tx_pt (fun _ => by rw [up_app, if_neg (by omega)]) (fun _ => by rw [up_app, if_neg (by omega)])
theorem PW.num {T : St} {p s : Nat} {v : Int} (h : PW T s) : PW (tv T p v) s := by
  unfold PW tk at *
  simp (disch := omega) only [tv_ne]
  exact h
/-- twist() -/
theorem r_twist {N : Nat} (hN : 200 ≤ N) {c r : St} {a0 a1 a2 : Int} (h0 : r32 a0) (h1 : r32 a1) (h2 : r32 a2) (H : RG c r) : Two (d_x7_twist N c a0 a1 a2) (d_x8_twist N r a0 a1 a2) (QG c r) := by
  unfold d_x7_twist d_x8_twist
  have h2' := h2
  unfold r32 at h2'
  by_cases hs : 0 ≤ a0 ∧ a0 < 8
  · refine Two.cL (S7t h0 hs) (Two.eL (by decide) ?_)
    refine Two.cR (S8t h0 hs) (Two.eR (by decide) ?_)
    by_cases hi : -9999 ≤ a2 ∧ a2 ≤ 9999
    · refine Two.cR (int h2 (by unfold r32; omega) (by unfold r32; omega) hi) (Two.eR (by decide) ?_)
      refine Two.eL (by rw [w32r h2]; omega) (Two.eL (by rw [w32r h2]; omega) ?_)
      obtain ⟨s, rfl⟩ : ∃ s : Nat, a0 = s := ⟨a0.toNat, by omega⟩
      have hps := H.p18 s (by omega)
      refine Two.cL (Em (by omega) hps.1) ?_
      refine Two.iR (by ((try simp (disch := omega) only [w32i, Int.toNat_natCast]) <;> omega)) ?_
      rw [w32i (x := (s : Int)) (by omega) (by omega), Int.toNat_natCast, hps.2, w32i (x := c 18 s) (by omega) (by omega)]
      by_cases he : c 18 s = 0
      · rw [if_pos he]
        refine Two.eL (by decide) (Two.iR he ?_)
        exact Two.ret rfl (QG.refl H _)
      · rw [if_neg he]
        refine Two.iL (by decide) (Two.eR he ?_)
        refine Two.cL (e_hasP (by omega) h1 hps.1) ?_
        refine Two.cR (e_isP (by omega) h1 (by omega)) ?_
        rw [hps.2]
        by_cases hkp : 0 ≤ a1 ∧ a1 < c 18 s
        · rw [if_pos hkp]
          refine Two.eL (by decide) (Two.eR (by decide) ?_)
          obtain ⟨k, rfl⟩ : ∃ k : Nat, a1 = k := ⟨a1.toNat, by omega⟩
          have hd : (24 * s + k) % 24 = k ∧ (24 * s + k) / 24 = s := sk (by omega)
          have hvv : (((24 * s + k) % 24 : Nat) : Int) < c 18 ((24 * s + k) / 24) := by rw [hd.1, hd.2]; exact hkp.2
          have kd := H.kd (p := 24 * s + k) (by omega) hvv
          have e1 : ((s : Int) * 24 + (k : Int)) = ((24 * s + k : Nat) : Int) := by omega
          have e2 : (24 * (s : Int) + (k : Int)) = ((24 * s + k : Nat) : Int) := by omega
          refine Two.bdL (Two.bdR ?_)
          rw [e1, e2]
          have hp : 24 * s + k < 192 := by omega
          have hwf := H.wf hp hvv
          generalize hpe : 24 * s + k = p at *
          have hg : 0 ≤ w32 (p : Int) ∧ w32 (p : Int) < ((192 : Nat) : Int) := (by ((try simp (disch := omega) only [w32i, Int.toNat_natCast]) <;> omega))
          refine Two.iL hg (Two.bdL ?_)
          refine Two.iR hg ?_
          rw [w32i (x := (p : Int)) (by omega) (by omega), Int.toNat_natCast, kd.1]
          have a := e_hn (N := N) (s := c) (k := c 19 p) ⟨kd.2.2.2.2.1, kd.2.2.2.2.2.1⟩
          have b := e_in8 (N := N) (s := r) (k := c 19 p) ⟨kd.2.2.2.2.1, kd.2.2.2.2.2.1⟩
          by_cases hnb : nb (c 19 p)
          · refine Two.cL (a.1 hnb) (Two.eL (by decide) ?_)
            refine Two.cR (b.1 hnb) (Two.eR (by decide) ?_)
            refine Two.cL (e_allow ⟨kd.2.2.2.2.1, kd.2.2.2.2.2.1⟩ h2) ?_
            refine Two.iR (by omega) ?_
            rw [kd.1, w32i (x := c 19 p) (by omega) (by omega)]
            have e127 : ∀ B : Option Rs, B = d_x8_twist_127 N r a2 (p : Int) → alw (c 19 p) a2 → Two (if 0 ≤ (p : Int) ∧ (p : Int) < ((192 : Nat) : Int) then bd (up c 21 p a2) fun s13 => bV (d_x6_untell N 26 s13 ) fun s14 => some (s14, 1) else none) B (QG c r) := by
              intro B hB ha
              rw [hB]
              unfold d_x8_twist_127
              refine Two.iL (by omega) (Two.bdL ?_)
              refine Two.iR hg (Two.bdR ?_)
              rw [w32i (x := (p : Int)) (by omega) (by omega), Int.toNat_natCast, w32r h2]
              have k19 : tx c r 19 p = c 19 p := (tx_ct c r 19 p (by omega) (by omega)).symm
              have hX : XT (tx (up c 21 p a2) (up r 82 p a2)) := by
                rw [tx_tv]
                refine ⟨H.2.1.1.1.num ⟨hp, by rw [← tx_ct c r 18 _ (by omega) (by omega)]; exact hvv⟩ (by rw [k19]; exact hnb) hi (by rw [k19]; exact ha.2) (by rw [k19]; exact ha.1), fun s hs => (H.2.1.1.2 s hs).num⟩
              obtain ⟨c2, r2, w, w', e1, e2, q⟩ := S_unt hN (c1 := up c 21 p a2) (r1 := up r 82 p a2) H (fun a k z => up_ne (by omega)) (fun a k z y => up_ne (by omega)) (fun k z => up_ne (by omega)) (H.1.cong (up_ne (by omega)) (fun k => up_ne (by omega)) (up_ne (by omega)) (fun k => up_ne (by omega))) hX
              refine Two.vL e1 ?_
              refine Two.vR e2 ?_
              exact Two.ret rfl (q _)
            have e100 : ∀ A : Option Rs, A = (if w32 (if (c 19 p = 13 → 1 ≤ a2 ∧ a2 ≤ 9) ∧ (c 19 p = 8 ∨ c 19 p = 9 → 0 ≤ a2) then 1 else 0) = 0 then some (c, -2) else if 0 ≤ (p : Int) ∧ (p : Int) < ((192 : Nat) : Int) then bd (up c 21 p a2) fun s13 => bV (d_x6_untell N 26 s13 ) fun s14 => some (s14, 1) else none) → (c 19 p = 8 ∨ c 19 p = 9 → 0 ≤ a2) → Two A (d_x8_twist_100 N r a2 (p : Int)) (QG c r) := by
              intro A hA h89
              rw [hA]
              unfold d_x8_twist_100
              refine Two.iR hg ?_
              rw [w32i (x := (p : Int)) (by omega) (by omega), Int.toNat_natCast, kd.1, w32i (x := c 19 p) (by omega) (by omega)]
              by_cases h13 : c 19 p = 13
              · refine Two.iR h13 ?_
                by_cases hv : 1 ≤ a2 ∧ a2 ≤ 9
                · refine Two.cR (int h2 (by unfold r32; omega) (by unfold r32; omega) hv) (Two.eR (by decide) ?_)
                  rw [if_pos (show (c 19 p = 13 → 1 ≤ a2 ∧ a2 ≤ 9) ∧ (c 19 p = 8 ∨ c 19 p = 9 → 0 ≤ a2) from ⟨fun _ => hv, h89⟩)]
                  refine Two.eL (by decide) ?_
                  exact e127 _ rfl ⟨fun _ => hv, h89⟩
                · refine Two.cR (inf h2 (by unfold r32; omega) (by unfold r32; omega) hv) (Two.iR (by decide) ?_)
                  rw [if_neg (show ¬ ((c 19 p = 13 → 1 ≤ a2 ∧ a2 ≤ 9) ∧ (c 19 p = 8 ∨ c 19 p = 9 → 0 ≤ a2)) from fun z => hv (z.1 h13))]
                  refine Two.iL (by decide) ?_
                  exact Two.ret rfl (QG.refl H _)
              · refine Two.eR h13 ?_
                rw [if_pos (show (c 19 p = 13 → 1 ≤ a2 ∧ a2 ≤ 9) ∧ (c 19 p = 8 ∨ c 19 p = 9 → 0 ≤ a2) from ⟨fun z => absurd z h13, h89⟩)]
                refine Two.eL (by decide) ?_
                exact e127 _ rfl ⟨fun z => absurd z h13, h89⟩
            have e96 : ∀ A : Option Rs, A = (if w32 (if (c 19 p = 13 → 1 ≤ a2 ∧ a2 ≤ 9) ∧ (c 19 p = 8 ∨ c 19 p = 9 → 0 ≤ a2) then 1 else 0) = 0 then some (c, -2) else if 0 ≤ (p : Int) ∧ (p : Int) < ((192 : Nat) : Int) then bd (up c 21 p a2) fun s13 => bV (d_x6_untell N 26 s13 ) fun s14 => some (s14, 1) else none) → (c 19 p = 8 ∨ c 19 p = 9) → Two A (d_x8_twist_96 N r a2 (p : Int)) (QG c r) := by
              intro A hA h89
              unfold d_x8_twist_96
              by_cases hn : a2 < 0
              · refine Two.iR (by rw [w32r h2]; exact hn) ?_
                rw [hA, if_neg (show ¬ ((c 19 p = 13 → 1 ≤ a2 ∧ a2 ≤ 9) ∧ (c 19 p = 8 ∨ c 19 p = 9 → 0 ≤ a2)) from fun z => by have := z.2 h89; omega)]
                refine Two.iL (by decide) ?_
                exact Two.ret rfl (QG.refl H _)
              · refine Two.eR (by rw [w32r h2]; exact hn) ?_
                exact e100 A hA (fun _ => by omega)
            by_cases h8 : c 19 p = 8
            · refine Two.iR h8 ?_
              exact e96 _ rfl (Or.inl h8)
            · refine Two.eR h8 (Two.iR (by omega) ?_)
              by_cases h9 : c 19 p = 9
              · refine Two.iR h9 ?_
                exact e96 _ rfl (Or.inr h9)
              · refine Two.eR h9 ?_
                exact e100 _ rfl (fun z => by omega)
          · refine Two.cL (a.2 hnb) (Two.iL (by decide) ?_)
            refine Two.cR (b.2 hnb) (Two.iR (by decide) ?_)
            exact Two.ret rfl (QG.refl H _)
        · rw [if_neg hkp]
          refine Two.iL (by decide) (Two.iR (by decide) ?_)
          exact Two.ret rfl (QG.refl H _)
    · refine Two.cR (inf h2 (by unfold r32; omega) (by unfold r32; omega) hi) (Two.iR (by decide) ?_)
      by_cases hn : a2 < -9999
      · refine Two.iL (by rw [w32r h2]; exact hn) ?_
        exact Two.ret rfl (QG.refl H _)
      · refine Two.eL (by rw [w32r h2]; exact hn) (Two.iL (by rw [w32r h2]; omega) ?_)
        exact Two.ret rfl (QG.refl H _)
  · refine Two.cL (S7f h0 hs) (Two.iL (by decide) ?_)
    refine Two.cR (S8f h0 hs) (Two.iR (by decide) ?_)
    exact Two.ret rfl (QG.refl H _)
