theorem e_isQ {N : Nat} {c : St} {a : Int} (h : r32 a) : d_x7_isQuestion N c a = some (c, if a = 0 ∨ (4 ≤ a ∧ a % 4 ≤ 1) then 1 else 0) := by
  unfold d_x7_isQuestion d_x7_isQuestion_16
  rw [w32r h]
  by_cases h0 : a = 0
  · rw [if_pos h0, if_pos (Or.inl h0)]
  · rw [if_neg h0]
    by_cases h4 : a < 4
    · rw [if_pos h4, if_neg (by omega)]
    · rw [if_neg h4, if_neg (show ¬ (4 : Nat) = 0 by decide), Int.tmod_eq_emod_of_nonneg (by omega), w32i (x := a % 4) (by omega) (by omega)]
      by_cases h1 : 1 < a % 4
      · rw [if_pos h1, if_neg (by omega)]
      · rw [if_neg h1, if_pos (by omega)]
theorem r_t83 {N : Nat} (hN : 20000 ≤ N) {c r : St} {h s : Nat} {a2 : Int} (h2 : r32 a2) (hh : h < 4) (hs : s < 8) (H : RG c r) (he : c 18 s ≠ 0) (hq : a2 = 0 ∨ (4 ≤ a2 ∧ a2 % 4 ≤ 1)) {x4 x5 : Int} (hx : a2 ≠ 0 → ∃ k : Nat, x4 = k ∧ x5 = ((24 * s + k : Nat) : Int) ∧ (k : Int) < c 18 s ∧ nb (c 19 (24 * s + k))) : Two (d_x7_tells_83 N c (h : Int) (s : Int) a2 x4) (d_x8_tells_98 N r (h : Int) (s : Int) a2 x5) (QG c r) := by
  have hsh := H.2.2.2.2.1
  have h52 := hsh.r52 hh
  have h126 := hsh.r126 hh
  have hg : 0 ≤ w32 (h : Int) ∧ w32 (h : Int) < ((4 : Nat) : Int) := (by ((try simp (disch := omega) only [w32i, Int.toNat_natCast]) <;> omega))
  unfold d_x7_tells_83 d_x8_tells_98
  refine Two.cL (e_miss c hh h52) ?_
  refine Two.iR hg ?_
  rw [w32i (x := (h : Int)) (by omega) (by omega), Int.toNat_natCast, h126]
  by_cases hm : c 52 h = -1
  · rw [if_pos hm, if_pos hm]
    refine Two.eL (by decide) (Two.iR (by decide) ?_)
    exact Two.ret rfl (QG.refl H _)
  rw [if_neg hm, if_neg hm]
  refine Two.iL (by decide) (Two.eR (by decide) ?_)
  rcases hsh h hh with z | ⟨z1, z2, z3, z4, z5, z6, z7⟩
  · exact absurd z.1 hm
  refine Two.iL (by omega) (Two.iR (by omega) ?_)
  rw [z4, w32i (x := c 53 h) (by omega) (by omega)]
  by_cases h16 : 16 < c 53 h
  · refine Two.iL h16 (Two.iR h16 ?_)
    exact Two.ret rfl (QG.refl H _)
  refine Two.eL h16 (Two.eR h16 ?_)
  obtain ⟨n, hn⟩ : ∃ n : Nat, c 53 h = n := ⟨(c 53 h).toNat, by omega⟩
  have h2' := h2
  unfold r32 at h2'
  by_cases h0 : a2 = 0
  · subst h0
    refine Two.iL (by decide) ?_
    refine Two.tailL ?_
    unfold d_x7_tellingStreams
    exact L_ts hN hh (by omega) c r (s : Int) x5 8 N c r 0 0 (by omega) (by omega) (by unfold r32; omega) H hm hn (fun _ _ _ => rfl) (fun _ _ _ => rfl)
  · obtain ⟨k, rfl, rfl, hk, hnb⟩ := hx h0
    have h18 := (H.p18 s hs).1
    have hp : 24 * s + k < 192 := by omega
    have hd : (24 * s + k) % 24 = k ∧ (24 * s + k) / 24 = s := sk (by omega)
    have hv : (((24 * s + k) % 24 : Nat) : Int) < c 18 ((24 * s + k) / 24) := by rw [hd.1, hd.2]; exact hk
    have kd := H.kd hp hv
    have nm := H.nm hp hv (by unfold nb at hnb; omega)
    clear hx
    generalize hpe : 24 * s + k = p at *
    obtain ⟨B, hB⟩ := L_B hN H (s := s) (h := h) (n := n) (p := p) hs he hh (by omega) hm hn hp hv hnb
    obtain ⟨B', hB'⟩ : ∃ B' : Int → Int, B' = fun v => @ite _ (alw (c 19 p) v) (Classical.propDecidable _) (B v) 0 := ⟨_, rfl⟩
    have hB1 : ∀ v, alw (c 19 p) v → B' v = B v := fun v ha => by rw [hB']; exact if_pos ha
    have hB0 : ∀ v, ¬ alw (c 19 p) v → B' v = 0 := fun v ha => by rw [hB']; exact if_neg ha
    have tm : Int.tmod a2 4 = a2 % 4 := Int.tmod_eq_emod_of_nonneg (by omega)
    -- the class
    have EC : ∀ x4 : Int, (x4 = 0 ∨ x4 = 1) → ∃ c', d_x7_tellingNumbers N c (h : Int) (s : Int) (k : Int) x4 = some (c', if x4 = 0 then sg B' 21 else gg B' 21) ∧ (∀ a k, ¬ (a = 50 ∨ (38 ≤ a ∧ a ≤ 49)) → c' a k = c a k) ∧ UT 38 c' := by
      intro x4 hx4
      obtain ⟨c', i1, i2, i3⟩ := L_tnC (N := N) (c0 := c) (s := s) (h := h) (p := p) hp ⟨kd.2.2.2.2.1, kd.2.2.2.2.2.1⟩ B (fun v a b => ⟨(hB v a b).1, (hB v a b).2.1⟩) B' hB1 hB0 x4 hx4 21 N c 0 (-1) (by omega) (by omega) ⟨fun _ _ _ => rfl, H.2.2.1.1⟩ (Or.inl rfl)
      refine ⟨c', ?_, i2, i3⟩
      unfold d_x7_tellingNumbers
      have ep : ((s : Int) * 24 + (k : Int)) = (p : Int) := by omega
      rw [bd_eq, ep, w32i (x := (p : Int)) (by omega) (by omega), if_pos (by omega), bd_eq, Int.toNat_natCast]
      rw [show (21 : Int) - ((21 : Nat) : Int) = 0 from rfl, Int.zero_add, if_pos (show (-1 : Int) = -1 from rfl)] at i1
      exact i1
    -- the model
    obtain ⟨lo, hlo⟩ : ∃ lo : Int, lo = if c 19 p = 13 then 1 else 0 := ⟨_, rfl⟩
    have fin : (if a2 % 4 = 0 then sg B' (21 - lo).toNat else gg B' (21 - lo).toNat) = (if a2 % 4 = 0 then sg B' 21 else gg B' 21) := by
      by_cases h13 : c 19 p = 13
      · rw [if_pos h13] at hlo
        subst hlo
        have b0 : B' 0 = 0 := hB0 0 (fun z => by have := z.1 h13; omega)
        have e1 : sg B' 21 = sg B' 20 := by
          show B' (20 - ((20 : Nat) : Int)) + sg B' 20 = _
          rw [show (20 : Int) - ((20 : Nat) : Int) = 0 from rfl, b0, Int.zero_add]
        have e2 : gg B' 21 = gg B' 20 := by
          show (if B' (20 - ((20 : Nat) : Int)) = 1 then (20 : Int) - ((20 : Nat) : Int) else gg B' 20) = _
          rw [show (20 : Int) - ((20 : Nat) : Int) = 0 from rfl, b0, if_neg (by decide)]
        rw [e1, e2]
        rfl
      · rw [if_neg h13] at hlo
        subst hlo
        rfl
    have ER : ∃ r', d_x8_tells_130L N N r (h : Int) (s : Int) a2 (p : Int) 0 0 = some (r', if a2 % 4 = 0 then sg B' 21 else gg B' 21) ∧ (∀ a k, ¬ (a = 77 ∨ (86 ≤ a ∧ a ≤ 93) ∨ (103 ≤ a ∧ a ≤ 109)) → r' a k = r a k) ∧ (∀ k, k ≠ 36 → k ≠ 37 → k ≠ 38 → r' 77 k = r 77 k) ∧ RS r r' := by
      have hr0 : RV r p r := ⟨fun _ _ _ => rfl, fun _ _ _ _ => rfl, RS.refl H.2.1.2.1 H.2.1.2.2.2⟩
      have to181 : d_x8_tells_130L N N r (h : Int) (s : Int) a2 (p : Int) 0 0 = (if c 19 p = 13 then d_x8_tells_224L N N r (h : Int) (s : Int) a2 (p : Int) (r 82 p) 0 (-1) 9 else d_x8_tells_224L N N r (h : Int) (s : Int) a2 (p : Int) (r 82 p) 0 (-1) 20) := by
        obtain ⟨m, hm⟩ : ∃ m, N = m + 1 := ⟨N - 1, by omega⟩
        have : d_x8_tells_130L N N r (h : Int) (s : Int) a2 (p : Int) 0 0 = d_x8_tells_130 N (d_x8_tells_130L N m) r (h : Int) (s : Int) a2 (p : Int) 0 0 := by
          conv => lhs; arg 2; rw [hm]
          rfl
        rw [this]
        unfold d_x8_tells_130 d_x8_tells_181 d_x8_tells_222
        rw [if_pos (show w32 0 < 8 by decide), w32r h2, if_neg h0, if_neg h0, w32i (x := (p : Int)) (by omega) (by omega), if_pos (by omega), bd_eq, if_pos (by omega), Int.toNat_natCast, kd.1, w32i (x := c 19 p) (by omega) (by omega)]
      rw [to181]
      have gen : ∀ v : Int, (v = 9 ∧ c 19 p = 13) ∨ (v = 20 ∧ c 19 p ≠ 13) → ∃ r', d_x8_tells_224L N N r (h : Int) (s : Int) a2 (p : Int) (r 82 p) 0 (-1) v = some (r', if a2 % 4 = 0 then sg B' 21 else gg B' 21) ∧ (∀ a k, ¬ (a = 77 ∨ (86 ≤ a ∧ a ≤ 93) ∨ (103 ≤ a ∧ a ≤ 109)) → r' a k = r a k) ∧ (∀ k, k ≠ 36 → k ≠ 37 → k ≠ 38 → r' 77 k = r 77 k) ∧ RS r r' := by
        intro v hv
        have z0 : sg B' (20 - v).toNat = 0 ∧ gg B' (20 - v).toNat = -1 := by
          refine sg_0 _ (fun i hi => hB0 _ (fun z => ?_))
          rcases hv with ⟨x1, x2⟩ | ⟨x1, x2⟩
          · have := z.1 x2
            omega
          · omega
        have hlo2 : (c 19 p = 13 ∧ lo = 1) ∨ (c 19 p ≠ 13 ∧ lo = 0) := by
          by_cases e : c 19 p = 13
          · rw [if_pos e] at hlo
            exact Or.inl ⟨e, hlo⟩
          · rw [if_neg e] at hlo
            exact Or.inr ⟨e, hlo⟩
        have i := L_tnM (N := N) (r0 := r) (s := s) (h := h) (p := p) hp (kd := c 19 p) ⟨kd.1, kd.2.2.2.2.1, kd.2.2.2.2.2.1⟩ B (fun v a b => ⟨(hB v a b).1, (hB v a b).2.2⟩) B' hB1 (x3 := a2) (by omega) (lo := lo) hlo (v + 1 - lo).toNat N r v (by omega) (by omega) (fun z => by omega) (by omega) hr0
        rw [z0.1, z0.2, fin] at i
        exact i
      by_cases h13 : c 19 p = 13
      · rw [if_pos h13]
        exact gen 9 (Or.inl ⟨rfl, h13⟩)
      · rw [if_neg h13]
        exact gen 20 (Or.inr ⟨rfl, h13⟩)
    obtain ⟨r', er1, er2, er3, er4⟩ := ER
    rw [er1]
    refine Two.eL (by rw [w32r h2]; exact h0) (Two.eL (show ¬ (4 : Nat) = 0 by decide) ?_)
    rw [w32r h2, tm, w32i (x := a2 % 4) (by omega) (by omega)]
    unfold d_x7_tells_143
    by_cases h1 : a2 % 4 = 1
    · obtain ⟨c', ec1, ec2, ec3⟩ := EC 1 (Or.inr rfl)
      refine Two.iL h1 ?_
      refine Two.cL ec1 ?_
      refine Two.ret ?_ (S_think H ec2 er2 er3 er4 ec3 _)
      rw [if_neg (by omega), if_neg (by decide)]
    · obtain ⟨c', ec1, ec2, ec3⟩ := EC 0 (Or.inl rfl)
      refine Two.eL h1 ?_
      refine Two.cL ec1 ?_
      refine Two.ret ?_ (S_think H ec2 er2 er3 er4 ec3 _)
      rw [if_pos (by omega), if_pos rfl]
/-- tells() -/
theorem r_tells {N : Nat} (hN : 20000 ≤ N) {c r : St} {a0 a1 a2 : Int} (h0 : r32 a0) (h1 : r32 a1) (h2 : r32 a2) (H : RG c r) : Two (d_x7_tells N c a0 a1 a2) (d_x8_tells N r a0 a1 a2) (QG c r) := by
  unfold d_x7_tells d_x8_tells
  by_cases hh : 0 ≤ a0 ∧ a0 < 4
  · refine Two.cL (H7t h0 hh) (Two.eL (by decide) ?_)
    refine Two.cR (H8t h0 hh) (Two.eR (by decide) ?_)
    by_cases hs : 0 ≤ a1 ∧ a1 < 8
    · refine Two.cL (S7t h1 hs) (Two.eL (by decide) ?_)
      refine Two.cR (S8t h1 hs) (Two.eR (by decide) ?_)
      refine Two.cL (e_isQ h2) ?_
      have h2' := h2
      unfold r32 at h2'
      by_cases hq : a2 = 0 ∨ (4 ≤ a2 ∧ a2 % 4 ≤ 1)
      · rw [if_pos hq]
        refine Two.eL (by decide) ?_
        obtain ⟨h, rfl⟩ : ∃ h : Nat, a0 = h := ⟨a0.toNat, by omega⟩
        obtain ⟨s, rfl⟩ : ∃ s : Nat, a1 = s := ⟨a1.toNat, by omega⟩
        have hps := H.p18 s (by omega)
        have key : Two (bI (d_x7_isEmpty N c (s : Int)) fun s13 v14 => (if (w32 v14) = 0 then if 4 = 0 then none else bd ((Int.tdiv (w32 a2) 4) - 1) fun v15 => (if (w32 a2) = 0 then d_x7_tells_83 N  s13 (h : Int) (s : Int) a2 v15 else bI (d_x7_hasPart N  s13 (s : Int) v15) fun s16 v17 => (if (w32 v17) = 0 then some (s16, (-12)) else if 0 ≤ (w32 (((s : Int) * 24) + v15)) ∧ (w32 (((s : Int) * 24) + v15)) < ((192 : Nat) : Int) then bI (d_x0_hasNumber N  s16 (s16 19 (Int.toNat (w32 (((s : Int) * 24) + v15))))) fun s18 v19 => (if (w32 v19) = 0 then some (s18, (-13)) else d_x7_tells_83 N  s18 (h : Int) (s : Int) a2 v15) else none)) else some (s13, (-3)))) (d_x8_tells_33 N r (h : Int) (s : Int) a2) (QG c r) := by
          unfold d_x8_tells_33
          refine Two.cL (Em (by omega) hps.1) ?_
          refine Two.iR (by ((try simp (disch := omega) only [w32i, Int.toNat_natCast]) <;> omega)) ?_
          rw [w32i (x := (s : Int)) (by omega) (by omega), Int.toNat_natCast, hps.2, w32i (x := c 18 s) (by omega) (by omega)]
          by_cases he : c 18 s = 0
          · rw [if_pos he]
            refine Two.eL (by decide) (Two.iR he ?_)
            exact Two.ret rfl (QG.refl H _)
          · rw [if_neg he]
            refine Two.iL (by decide) (Two.eR he ?_)
            refine Two.eL (show ¬ (4 : Nat) = 0 by decide) (Two.bdL ?_)
            refine Two.eR (show ¬ (4 : Nat) = 0 by decide) (Two.bdR (Two.bdR ?_))
            rw [w32r h2, Int.tdiv_eq_ediv_of_nonneg (by omega)]
            by_cases hz : a2 = 0
            · refine Two.iL hz (Two.iR hz ?_)
              unfold d_x8_tells_78
              refine Two.iR (by rw [w32r h2]; exact hz) ?_
              exact r_t83 hN h2 (by omega) (by omega) H he hq (fun z => absurd hz z)
            · refine Two.eL hz (Two.eR hz ?_)
              obtain ⟨k, hk⟩ : ∃ k : Nat, a2 / 4 - 1 = k := ⟨(a2 / 4 - 1).toNat, by omega⟩
              rw [hk]
              have hkr : r32 (k : Int) := by unfold r32; omega
              refine Two.cL (e_hasP (by omega) hkr hps.1) ?_
              refine Two.cR (e_isP (by omega) hkr (by omega)) ?_
              rw [hps.2]
              by_cases hkp : (k : Int) < c 18 s
              · rw [if_pos (show 0 ≤ (k : Int) ∧ (k : Int) < c 18 s by omega)]
                refine Two.eL (by decide) (Two.eR (by decide) ?_)
                have hd : (24 * s + k) % 24 = k ∧ (24 * s + k) / 24 = s := sk (by omega)
                have kd := H.kd (p := 24 * s + k) (by omega) (by rw [hd.1, hd.2]; exact hkp)
                have e1 : ((s : Int) * 24 + (k : Int)) = ((24 * s + k : Nat) : Int) := by omega
                have e2 : (24 * (s : Int) + (k : Int)) = ((24 * s + k : Nat) : Int) := by omega
                rw [e1, e2]
                unfold d_x8_tells_78
                refine Two.iL (by ((try simp (disch := omega) only [w32i, Int.toNat_natCast]) <;> omega)) ?_
                refine Two.eR (by rw [w32r h2]; exact hz) (Two.iR (by ((try simp (disch := omega) only [w32i, Int.toNat_natCast]) <;> omega)) ?_)
                rw [w32i (x := ((24 * s + k : Nat) : Int)) (by omega) (by omega), Int.toNat_natCast, kd.1]
                have a := e_hn (N := N) (s := c) (k := c 19 (24 * s + k)) ⟨kd.2.2.2.2.1, kd.2.2.2.2.2.1⟩
                have b := e_in8 (N := N) (s := r) (k := c 19 (24 * s + k)) ⟨kd.2.2.2.2.1, kd.2.2.2.2.2.1⟩
                by_cases hnb : nb (c 19 (24 * s + k))
                · refine Two.cL (a.1 hnb) (Two.eL (by decide) ?_)
                  refine Two.cR (b.1 hnb) (Two.eR (by decide) ?_)
                  exact r_t83 hN h2 (by omega) (by omega) H he hq (fun _ => ⟨k, rfl, rfl, hkp, hnb⟩)
                · refine Two.cL (a.2 hnb) (Two.iL (by decide) ?_)
                  refine Two.cR (b.2 hnb) (Two.iR (by decide) ?_)
                  exact Two.ret rfl (QG.refl H _)
              · rw [if_neg (show ¬ (0 ≤ (k : Int) ∧ (k : Int) < c 18 s) by omega)]
                refine Two.iL (by decide) (Two.iR (by decide) ?_)
                exact Two.ret rfl (QG.refl H _)
        by_cases hz : a2 = 0
        · refine Two.iR (by rw [w32r h2]; exact hz) ?_
          exact key
        · refine Two.eR (by rw [w32r h2]; exact hz) (Two.eR (by rw [w32r h2]; omega) (Two.eR (show ¬ (4 : Nat) = 0 by decide) (Two.eR ?_ ?_)))
          · rw [w32r h2, Int.tmod_eq_emod_of_nonneg (by omega), w32i (x := a2 % 4) (by omega) (by omega)]
            omega
          · exact key
      · rw [if_neg hq]
        refine Two.iL (by decide) ?_
        refine Two.eR (by rw [w32r h2]; omega) ?_
        by_cases h4 : a2 < 4
        · refine Two.iR (by rw [w32r h2]; exact h4) ?_
          exact Two.ret rfl (QG.refl H _)
        · refine Two.eR (by rw [w32r h2]; exact h4) (Two.eR (show ¬ (4 : Nat) = 0 by decide) (Two.iR ?_ ?_))
          · rw [w32r h2, Int.tmod_eq_emod_of_nonneg (by omega), w32i (x := a2 % 4) (by omega) (by omega)]
            omega
          · exact Two.ret rfl (QG.refl H _)
    · refine Two.cL (S7f h1 hs) (Two.iL (by decide) ?_)
      refine Two.cR (S8f h1 hs) (Two.iR (by decide) ?_)
      exact Two.ret rfl (QG.refl H _)
  · refine Two.cL (H7f h0 hh) (Two.iL (by decide) ?_)
    refine Two.cR (H8f h0 hh) (Two.iR (by decide) ?_)
    exact Two.ret rfl (QG.refl H _)
