/-- tells(.., 0): which streams -/
theorem L_ts {N : Nat} (hN : 20000 ≤ N) {h n : Nat} (hh : h < 4) (hn : n ≤ 16) (c0 r0 : St) (x2 x5 : Int) : ∀ (k m : Nat) (c r : St) (j : Nat) (x : Int), j + k = 8 → k < m → r32 x → RG c r → c 52 h ≠ -1 → c 53 h = n → (∀ a k, 77 ≤ a → c a k = c0 a k) → (∀ a k, a < 77 → r a k = r0 a k) →
    Two (d_x7_tellingStreams_4L N m c (h : Int) x (j : Int)) (d_x8_tells_130L N m r (h : Int) x2 0 x5 x (j : Int)) (QG c0 r0) := by
  intro k
  induction k with
  | zero =>
    intro m c r j x hj hm hx H h5 h6 e f
    obtain ⟨m, rfl⟩ : ∃ m', m = m' + 1 := ⟨m - 1, by omega⟩
    show Two (d_x7_tellingStreams_4 N (d_x7_tellingStreams_4L N m) c h x j) (d_x8_tells_130 N (d_x8_tells_130L N m) r h x2 0 x5 x j) _
    unfold d_x7_tellingStreams_4 d_x8_tells_130 d_x8_tells_181
    (repeat (first | with_reducible refine Two.bdL ?_ | with_reducible refine Two.bdR ?_ | (with_reducible refine Two.iL ?_ ?_; · ((try simp (disch := omega) only [w32i, Int.toNat_natCast]) <;> omega)) | (with_reducible refine Two.eL ?_ ?_; · ((try simp (disch := omega) only [w32i, Int.toNat_natCast]) <;> omega)) | (with_reducible refine Two.iR ?_ ?_; · ((try simp (disch := omega) only [w32i, Int.toNat_natCast]) <;> omega)) | (with_reducible refine Two.eR ?_ ?_; · ((try simp (disch := omega) only [w32i, Int.toNat_natCast]) <;> omega))))
    exact Two.ret rfl ⟨H, e, f⟩
  | succ k ih =>
    intro m c r j x hj hm hx H h5 h6 e f
    obtain ⟨m, rfl⟩ : ∃ m', m = m' + 1 := ⟨m - 1, by omega⟩
    show Two (d_x7_tellingStreams_4 N (d_x7_tellingStreams_4L N m) c h x j) (d_x8_tells_130 N (d_x8_tells_130L N m) r h x2 0 x5 x j) _
    unfold d_x7_tellingStreams_4 d_x8_tells_130
    have hp := H.p18 j (by omega)
    have hl := H.2.2.2.2.2.1
    unfold RLi at hl
    refine Two.iL (by ((try simp (disch := omega) only [w32i, Int.toNat_natCast]) <;> omega)) ?_
    refine Two.iR (by ((try simp (disch := omega) only [w32i, Int.toNat_natCast]) <;> omega)) (Two.iR (by ((try simp (disch := omega) only [w32i, Int.toNat_natCast]) <;> omega)) (Two.iR (by ((try simp (disch := omega) only [w32i, Int.toNat_natCast]) <;> omega)) ?_))
    rw [w32i (x := (j : Int)) (by omega) (by omega), Int.toNat_natCast, hp.2, w32i (x := c 18 j) (by omega) (by omega)]
    refine Two.cL (Em (by omega) hp.1) ?_
    by_cases he : c 18 j = 0
    · rw [if_pos he]
      refine Two.eL (by decide) (Two.eR (by omega) ?_)
      unfold d_x7_tellingStreams_47 d_x8_tells_168 d_x8_tells_169
      refine Two.bdL (Two.bdR (Two.bdR ?_))
      rw [shl_0 (by omega), or32_0 hx]
      exact ih m c r (j + 1) x (by omega) (by omega) hx H h5 h6 e f
    · rw [if_neg he]
      refine Two.iL (by decide) (Two.iR (by omega) ?_)
      have hsh := H.2.2.2.2.1 h hh
      have hT := H.2.1
      rcases hsh with z | ⟨z1, z2, z3, z4, z5, z6, z7⟩
      · exact absurd z.1 h5
      · obtain ⟨c1, c2, r2, v2, w2, e1, e2, e3, V2, U2, R2, ec, er, er7⟩ := L_so0 hN hT.1.1 (s := j) (h := h) (n := n) (by omega) (by rw [← tx_ct c r 18 j (by omega) (by omega)]; exact he) hh (by omega) (lim := c 0 12) hl.2 (c := c) (r := r) ⟨⟨tx_ct c r, tx_rt c r⟩, ⟨rfl, hl.1⟩, h6, by rw [z4]; exact h6, fun i hi => z7 i (by omega)⟩ hT.2.1 hT.2.2.1 hT.2.2.2 H.2.2.1.1
        have Q := S_think H ec er er7 R2 U2 0
        refine Two.vL e1 ?_
        refine Two.cL e2 ?_
        refine Two.cR e3 ?_
        have n5 : c2 52 h ≠ -1 := by rw [ec _ _ (by omega)]; exact h5
        have n6 : c2 53 h = n := by rw [ec _ _ (by omega)]; exact h6
        rcases V2 with rfl | rfl
        · refine Two.iL (by decide) (Two.iR (by decide) ?_)
          unfold d_x7_tellingStreams_47 d_x8_tells_168 d_x8_tells_169
          refine Two.bdL (Two.bdR (Two.bdR ?_))
          rw [shl_0 (by omega), or32_0 hx]
          exact ih m c2 r2 (j + 1) x (by omega) (by omega) hx Q.1 n5 n6 (fun a k y => (Q.2.1 a k y).trans (e a k y)) (fun a k y => (Q.2.2 a k y).trans (f a k y))
        · refine Two.eL (by decide) (Two.eR (by decide) ?_)
          unfold d_x7_tellingStreams_47 d_x8_tells_169
          refine Two.bdL (Two.bdL (Two.bdR (Two.bdR ?_)))
          exact ih m c2 r2 (j + 1) _ (by omega) (by omega) (or32_r _ _) Q.1 n5 n6 (fun a k y => (Q.2.1 a k y).trans (e a k y)) (fun a k y => (Q.2.2 a k y).trans (f a k y))
/-- texts with another number at p -/
def tv (T : St) (p : Nat) (v : Int) : St := fun a k => if (a = 21 ∨ a = 82) ∧ k = p then v else T a k
theorem tv_ne {T : St} {p a k : Nat} {v : Int} (h : ¬ ((a = 21 ∨ a = 82) ∧ k = p)) : tv T p v a k = T a k := if_neg h
theorem tv_p {T : St} {p a : Nat} {v : Int} (h : a = 21 ∨ a = 82) : tv T p v a p = v := if_pos ⟨h, rfl⟩
theorem WT.num {T : St} (W : WT T) {p : Nat} {v : Int} (hp : VP T p) (hk : nb (T 19 p)) (hv : -9999 ≤ v ∧ v ≤ 9999) (h89 : T 19 p = 8 ∨ T 19 p = 9 → 0 ≤ v) (h13 : T 19 p = 13 → 1 ≤ v ∧ v ≤ 9) : WT (tv T p v) := by
  refine ⟨fun s hs => ?_, fun q hq => ?_⟩
  · rw [tv_ne (by omega), tv_ne (by omega)]
    exact W.1 s hs
  · have hq' : VP T q := by
      unfold VP at *
      rw [tv_ne (by omega)] at hq
      exact hq
    have w := W.2 q hq'
    have hVP : ∀ x, VP T x → VP (tv T p v) x := by
      intro x hx
      unfold VP at *
      rw [tv_ne (by omega)]
      exact hx
    have e19 : tv T p v 19 q = T 19 q := tv_ne (by omega)
    have e20 : tv T p v 20 q = T 20 q := tv_ne (by omega)
    have e22 : tv T p v 22 q = T 22 q := tv_ne (by omega)
    have e23 : tv T p v 23 q = T 23 q := tv_ne (by omega)
    have e24 : tv T p v 24 q = T 24 q := tv_ne (by omega)
    have e79 : tv T p v 79 q = T 79 q := tv_ne (by omega)
    have e80 : tv T p v 80 q = T 80 q := tv_ne (by omega)
    have e81 : tv T p v 81 q = T 81 q := tv_ne (by omega)
    have e83 : tv T p v 83 q = T 83 q := tv_ne (by omega)
    have e84 : tv T p v 84 q = T 84 q := tv_ne (by omega)
    have e23' : tv T p v 23 (q + 1) = T 23 (q + 1) := tv_ne (by omega)
    obtain ⟨w1, w2, w3, w4, w5, w6, w7, w8, w9, w10, w11, w12, w13⟩ := w
    unfold WFp
    rw [e19, e20, e22, e23, e24, e79, e80, e81, e83, e84, e23']
    refine ⟨w1, ?_, ?_, w4, fun z => ⟨(w5 z).1, (w5 z).2.1, fun i hi => ?_⟩, w6, ?_, ?_, w9, w10, w11, fun z => ⟨hVP _ (w12 z).1, (w12 z).2⟩, fun z => ⟨hVP _ (w13 z).1, (w13 z).2⟩⟩
    · by_cases e : q = p
      · subst e
        rw [tv_p (Or.inl rfl), tv_p (Or.inr rfl)]
        omega
      · rw [tv_ne (by omega), tv_ne (by omega)]
        exact w2
    · by_cases e : q = p
      · subst e
        intro z
        unfold nb at hk
        omega
      · rw [tv_ne (by omega)]
        exact w3
    · rw [tv_ne (by omega), tv_ne (by omega)]
      exact (w5 z).2.2 i hi
    · by_cases e : q = p
      · subst e
        rw [tv_p (Or.inl rfl)]
        exact h89
      · rw [tv_ne (by omega)]
        exact w7
    · by_cases e : q = p
      · subst e
        rw [tv_p (Or.inl rfl)]
        exact h13
      · rw [tv_ne (by omega)]
        exact w8
def CV (c0 : St) (p : Nat) (c : St) : Prop := (∀ a k, ¬ (a = 50 ∨ (38 ≤ a ∧ a ≤ 49) ∨ (a = 21 ∧ k = p)) → c a k = c0 a k) ∧ UT 38 c
def RV (r0 : St) (p : Nat) (r : St) : Prop := (∀ a k, ¬ (a = 77 ∨ (86 ≤ a ∧ a ≤ 93) ∨ (103 ≤ a ∧ a ≤ 109) ∨ (a = 82 ∧ k = p)) → r a k = r0 a k) ∧ (∀ k, k ≠ 36 → k ≠ 37 → k ≠ 38 → r 77 k = r0 77 k) ∧ RS r0 r
def alw (k v : Int) : Prop := (k = 13 → 1 ≤ v ∧ v ≤ 9) ∧ (k = 8 ∨ k = 9 → 0 ≤ v)
theorem RS.trans {r s u : St} (h : RS r s) (g : RS s u) : RS r u := ⟨fun q hq => by
    have a := h.1 q hq
    have b := g.1 q hq
    exact ⟨b.1.trans a.1, b.2.1.trans a.2.1, b.2.2.1.trans a.2.2.1, b.2.2.2.1.trans a.2.2.2.1, b.2.2.2.2⟩, fun q hq => by
    have a := h.2 q hq
    have b := g.2 q hq
    exact ⟨b.1.trans a.1, b.2.1.trans a.2.1, b.2.2.trans a.2.2⟩⟩
/-- what is answered for a number doesn't hang on the way there -/
theorem L_B {N : Nat} (hN : 20000 ≤ N) {c0 r0 : St} (H : RG c0 r0) {s h n p : Nat} (hs : s < 8) (he : c0 18 s ≠ 0) (hh : h < 4) (hn : n ≤ 16) (h5 : c0 52 h ≠ -1) (h6 : c0 53 h = n) (hp : p < 192) (hv : ((p % 24 : Nat) : Int) < c0 18 (p / 24)) (hk : nb (c0 19 p)) :
    ∃ B : Int → Int, ∀ v : Int, 0 ≤ v ∧ v ≤ 20 → alw (c0 19 p) v → (B v = 0 ∨ B v = 1)
      ∧ (∀ c, CV c0 p c → c 21 p = v → ∃ c1 c' w, d_x6_untell N 38 c = some (c1, w) ∧ d_x7_isToldBy N c1 (h : Int) (s : Int) = some (c', B v) ∧ CV c0 p c')
      ∧ (∀ r, RV r0 p r → r 82 p = v → ∃ r', d_x8_isSo N r (h : Int) (s : Int) 1 = some (r', B v) ∧ RV r0 p r') := by
  have hT := H.2.1
  have hl := H.2.2.2.2.2.1
  unfold RLi at hl
  have hsh := H.2.2.2.2.1 h hh
  rcases hsh with z | ⟨z1, z2, z3, z4, z5, z6, z7⟩
  · exact absurd z.1 h5
  have hvp : VP (tx c0 r0) p := ⟨hp, by rw [← tx_ct c0 r0 18 _ (by omega) (by omega)]; exact hv⟩
  have k19 : tx c0 r0 19 p = c0 19 p := (tx_ct c0 r0 19 p (by omega) (by omega)).symm
  have core : ∀ v : Int, 0 ≤ v ∧ v ≤ 20 → alw (c0 19 p) v → ∀ c r, CV c0 p c → c 21 p = v → RV r0 p r → r 82 p = v → ∃ c1 c' r' x w, d_x6_untell N 38 c = some (c1, w) ∧ d_x7_isToldBy N c1 (h : Int) (s : Int) = some (c', x) ∧ d_x8_isSo N r (h : Int) (s : Int) 1 = some (r', x) ∧ (x = 0 ∨ x = 1) ∧ CV c0 p c' ∧ RV r0 p r' := by
    intro v hv1 ha c r hc hcv hr hrv
    have W : WT (tv (tx c0 r0) p v) := hT.1.1.num hvp (by rw [k19]; exact hk) (by omega) (fun _ => hv1.1) (by rw [k19]; exact ha.1)
    have q1 : ct c (tv (tx c0 r0) p v) := by
      intro a k x y
      by_cases e : a = 21 ∧ k = p
      · obtain ⟨rfl, rfl⟩ := e
        rw [tv_p (Or.inl rfl)]; exact hcv
      · rw [tv_ne (by omega), hc.1 a k (by omega)]
        exact tx_ct c0 r0 a k x y
    have q2 : rt r (tv (tx c0 r0) p v) := by
      intro a k x y
      by_cases e : a = 82 ∧ k = p
      · obtain ⟨rfl, rfl⟩ := e
        rw [tv_p (Or.inr rfl)]; exact hrv
      · rw [tv_ne (by omega), hr.1 a k (by omega)]
        exact tx_rt c0 r0 a k x y
    obtain ⟨c1, c2, r2, v2, w2, e1, e2, e3, V2, U2, R2, ec, er, er7⟩ := L_so1 hN W (s := s) (h := h) (n := n) hs (by rw [tv_ne (by omega), ← tx_ct c0 r0 18 s (by omega) (by omega)]; exact he) hh (by omega) (lim := c0 0 12) hl.2 (c := c) (r := r) ⟨⟨q1, q2⟩, ⟨hc.1 _ _ (by omega), by rw [hr.2.1 _ (by omega) (by omega) (by omega)]; exact hl.1⟩, by rw [hc.1 _ _ (by omega)]; exact h6, by rw [hr.1 _ _ (by omega), z4]; exact h6, fun i hi => by rw [hc.1 _ _ (by omega), hr.1 _ _ (by omega)]; exact z7 i (by omega)⟩ hc.2
    exact ⟨c1, c2, r2, v2, w2, e1, e2, e3, V2, ⟨fun a k z => (ec a k (by omega)).trans (hc.1 a k z), U2⟩, ⟨fun a k z => (er a k (by omega)).trans (hr.1 a k z), fun k z y x => (er7 k z y x).trans (hr.2.1 k z y x), hr.2.2.trans R2⟩⟩
  have cb : ∀ v : Int, CV c0 p (up c0 21 p v) ∧ up c0 21 p v 21 p = v := fun v => ⟨⟨fun a k z => by rw [up_app, if_neg (by omega)], H.2.2.1.1.cong (fun a k _ _ => up_ne (by omega))⟩, up_same⟩
  have rb : ∀ v : Int, RV r0 p (up r0 82 p v) ∧ up r0 82 p v 82 p = v := by
    intro v
    have z := RS.refl hT.2.1 hT.2.2.2
    exact ⟨⟨fun a k z => by rw [up_app, if_neg (by omega)], fun k _ _ _ => up_ne (by omega), ⟨fun q hq => by rw [up_ne (by omega), up_ne (by omega), up_ne (by omega), up_ne (by omega), up_ne (by omega)]; exact z.1 q hq, fun q hq => by rw [up_ne (by omega), up_ne (by omega), up_ne (by omega)]; exact z.2 q hq⟩⟩, up_same⟩
  refine ⟨fun v => ((d_x8_isSo N (up r0 82 p v) (h : Int) (s : Int) 1).map Prod.snd).getD 0, fun v hv1 ha => ?_⟩
  obtain ⟨c1, c2, r2, x, w, e1, e2, e3, V, C2, R2⟩ := core v hv1 ha _ _ (cb v).1 (cb v).2 (rb v).1 (rb v).2
  have hB : ((d_x8_isSo N (up r0 82 p v) (h : Int) (s : Int) 1).map Prod.snd).getD 0 = x := by rw [e3]; rfl
  simp only [hB]
  refine ⟨V, fun c hc hcv => ?_, fun r hr hrv => ?_⟩
  · obtain ⟨c3, c4, r4, x', w', f1, f2, f3, V', C4, R4⟩ := core v hv1 ha c _ hc hcv (rb v).1 (rb v).2
    rw [e3] at f3
    have := (Prod.mk.inj (Option.some.inj f3)).2
    rw [this]
    exact ⟨c3, c4, w', f1, f2, C4⟩
  · obtain ⟨c3, c4, r4, x', w', f1, f2, f3, V', C4, R4⟩ := core v hv1 ha _ r (cb v).1 (cb v).2 hr hrv
    rw [e1] at f1
    have h1 := (Prod.mk.inj (Option.some.inj f1)).1
    rw [← h1, e2] at f2
    have := (Prod.mk.inj (Option.some.inj f2)).2
    rw [this]
    exact ⟨r4, f3, R4⟩
def sg (B : Int → Int) : Nat → Int
  | 0 => 0
  | k + 1 => B (20 - k) + sg B k
def gg (B : Int → Int) : Nat → Int
  | 0 => -1
  | k + 1 => if B (20 - k) = 1 then 20 - k else gg B k
theorem sg_0 {B : Int → Int} : ∀ k : Nat, (∀ i : Nat, i < k → B (20 - i) = 0) → sg B k = 0 ∧ gg B k = -1 := by
  intro k
  induction k with
  | zero => intro _; exact ⟨rfl, rfl⟩
  | succ k ih =>
    intro h
    have a := ih (fun i hi => h i (by omega))
    have b := h k (by omega)
    show B (20 - k) + sg B k = 0 ∧ (if B (20 - k) = 1 then (20 : Int) - k else gg B k) = -1
    rw [b, a.1, if_neg (by decide)]
    exact ⟨rfl, a.2⟩
theorem sg_rng {B : Int → Int} : ∀ k : Nat, k ≤ 21 → (∀ v : Int, B v = 0 ∨ B v = 1) → (0 ≤ sg B k ∧ sg B k ≤ k) ∧ -1 ≤ gg B k ∧ gg B k ≤ 20 := by
  intro k
  induction k with
  | zero => intro _ _; exact ⟨⟨Int.le_refl _, Int.le_refl _⟩, show (-1 : Int) ≤ -1 by decide, show (-1 : Int) ≤ 20 by decide⟩
  | succ k ih =>
    intro hk h
    have a := ih (by omega) h
    have b := h (20 - k)
    show (0 ≤ B (20 - k) + sg B k ∧ B (20 - k) + sg B k ≤ ((k + 1 : Nat) : Int)) ∧ -1 ≤ (if B (20 - k) = 1 then (20 : Int) - k else gg B k) ∧ (if B (20 - k) = 1 then (20 : Int) - k else gg B k) ≤ 20
    split <;> omega
/-- the class's loop over numbers -/
theorem L_tnC {N : Nat} {c0 : St} {s h p : Nat} (hp : p < 192) (hkd : 0 ≤ c0 19 p ∧ c0 19 p ≤ 13) (B : Int → Int) (hB : ∀ v : Int, 0 ≤ v ∧ v ≤ 20 → alw (c0 19 p) v → (B v = 0 ∨ B v = 1) ∧ (∀ c, CV c0 p c → c 21 p = v → ∃ c1 c' w, d_x6_untell N 38 c = some (c1, w) ∧ d_x7_isToldBy N c1 (h : Int) (s : Int) = some (c', B v) ∧ CV c0 p c'))
    (B' : Int → Int) (hB1 : ∀ v, alw (c0 19 p) v → B' v = B v) (hB0 : ∀ v, ¬ alw (c0 19 p) v → B' v = 0) (x4 : Int) (hx4 : x4 = 0 ∨ x4 = 1) :
    ∀ (k m : Nat) (c : St) (many first : Int), k ≤ 21 → k < m → CV c0 p c → (first = -1 ∨ (0 ≤ first ∧ first ≤ 20)) →
      ∃ c', d_x7_tellingNumbers_29L N m c (h : Int) (s : Int) x4 (p : Int) (c0 21 p) many first (21 - k) = some (c', if x4 = 0 then many + sg B' k else if first = -1 then gg B' k else first) ∧ (∀ a k, ¬ (a = 50 ∨ (38 ≤ a ∧ a ≤ 49)) → c' a k = c0 a k) ∧ UT 38 c' := by
  intro k
  induction k with
  | zero =>
    intro m c many first hk hm hc hf
    obtain ⟨m, rfl⟩ : ∃ m', m = m' + 1 := ⟨m - 1, by omega⟩
    refine ⟨up c 21 p (c0 21 p), ?_, fun a k z => ?_, hc.2.cong (fun a k _ _ => up_ne (by omega))⟩
    · show d_x7_tellingNumbers_29 N (d_x7_tellingNumbers_29L N m) c h s x4 p (c0 21 p) many first (21 - ((0 : Nat) : Int)) = _
      unfold d_x7_tellingNumbers_29
      rw [if_pos (show 20 < w32 (21 - ((0 : Nat) : Int)) by decide), w32i (x := (p : Int)) (by omega) (by omega), if_pos (by omega), bd_eq, Int.toNat_natCast]
      rcases hx4 with e | e
      · subst e
        rw [w32_0, if_pos rfl, if_pos rfl]
        show some (_, many) = some (_, many + 0)
        rw [Int.add_zero]
      · subst e
        rw [w32_1, if_neg (by decide), if_neg (by decide)]
        by_cases e1 : first = -1
        · rw [if_pos e1, e1]; rfl
        · rw [if_neg e1]
    · by_cases e : a = 21 ∧ k = p
      · obtain ⟨rfl, rfl⟩ := e
        exact up_same
      · rw [up_app, if_neg e]
        exact hc.1 a k (by omega)
  | succ k ih =>
    intro m c many first hk hm hc hf
    obtain ⟨m, rfl⟩ : ∃ m', m = m' + 1 := ⟨m - 1, by omega⟩
    have k19 : c 19 p = c0 19 p := hc.1 _ _ (by omega)
    obtain ⟨v, hv⟩ : ∃ v : Int, v = 20 - k := ⟨_, rfl⟩
    have hv2 : (21 : Int) - ((k + 1 : Nat) : Int) = v := by omega
    have hv3 : v + 1 = 21 - (k : Int) := by omega
    have hsg : sg B' (k + 1) = B' v + sg B' k := by rw [hv]; rfl
    have hgg : gg B' (k + 1) = if B' v = 1 then v else gg B' k := by rw [hv]; rfl
    have unf : d_x7_tellingNumbers_29L N (m + 1) c (h : Int) (s : Int) x4 (p : Int) (c0 21 p) many first (21 - ((k + 1 : Nat) : Int)) = d_x7_tellingNumbers_29 N (d_x7_tellingNumbers_29L N m) c (h : Int) (s : Int) x4 (p : Int) (c0 21 p) many first v := by rw [hv2]; rfl
    rw [unf]
    unfold d_x7_tellingNumbers_29 d_x7_tellingNumbers_101
    rw [if_neg (by rw [w32i (x := v) (by omega) (by omega)]; omega), w32i (x := (p : Int)) (by omega) (by omega), if_pos (show 0 ≤ (p : Int) ∧ (p : Int) < ((192 : Nat) : Int) by omega), Int.toNat_natCast, k19, e_allow hkd (by unfold r32; omega), bI_some]
    by_cases ha : alw (c0 19 p) v
    · rw [if_pos (show (c0 19 p = 13 → 1 ≤ v ∧ v ≤ 9) ∧ (c0 19 p = 8 ∨ c0 19 p = 9 → 0 ≤ v) from ha), w32_1, if_neg (show ¬ (1 : Int) = 0 by decide), if_pos (show 0 ≤ (p : Int) ∧ (p : Int) < ((192 : Nat) : Int) by omega), bd_eq]
      have b := hB v (by omega) ha
      have hcv : CV c0 p (up c 21 p v) := ⟨fun a k z => by rw [up_app, if_neg (by omega)]; exact hc.1 a k z, hc.2.cong (fun a k _ _ => up_ne (by omega))⟩
      obtain ⟨c1, c2, w, e1, e2, C2⟩ := b.2 _ hcv up_same
      rw [e1, bV_some, e2, bI_some]
      have hb' := hB1 v ha
      rcases b.1 with b0 | b0
      · rw [b0, w32_0, if_pos rfl, bd_eq, hv3, hsg, hgg, hb', b0, if_neg (show ¬ (0 : Int) = 1 by decide), Int.zero_add]
        exact ih m c2 many first (by omega) (by omega) C2 hf
      · rw [b0, w32_1, if_neg (show ¬ (1 : Int) = 0 by decide), bd_eq, hsg, hgg, hb', b0, if_pos rfl]
        by_cases hf1 : first = -1
        · rw [if_pos (by rw [hf1]; rfl), bd_eq, hv3]
          obtain ⟨c', i1, i2, i3⟩ := ih m c2 (many + 1) v (by omega) (by omega) C2 (Or.inr ⟨by omega, by omega⟩)
          refine ⟨c', ?_, i2, i3⟩
          rw [i1, if_pos hf1, if_neg (show ¬ v = -1 by omega), show many + 1 + sg B' k = many + (1 + sg B' k) by omega]
        · rw [if_neg (by rw [w32i (x := first) (by omega) (by omega)]; exact hf1), bd_eq, hv3]
          obtain ⟨c', i1, i2, i3⟩ := ih m c2 (many + 1) first (by omega) (by omega) C2 hf
          refine ⟨c', ?_, i2, i3⟩
          rw [i1, if_neg hf1, if_neg hf1, show many + 1 + sg B' k = many + (1 + sg B' k) by omega]
    · rw [if_neg (show ¬ ((c0 19 p = 13 → 1 ≤ v ∧ v ≤ 9) ∧ (c0 19 p = 8 ∨ c0 19 p = 9 → 0 ≤ v)) from ha), w32_0, if_pos rfl, bd_eq, hv3, hsg, hgg, hB0 v ha, if_neg (show ¬ (0 : Int) = 1 by decide), Int.zero_add]
      exact ih m c many first (by omega) (by omega) hc hf
/-- the model's loop over numbers -/
theorem L_tnM {N : Nat} {r0 : St} {s h p : Nat} (hp : p < 192) {kd : Int} (hkd : r0 79 p = kd ∧ 0 ≤ kd ∧ kd ≤ 13) (B : Int → Int) (hB : ∀ v : Int, 0 ≤ v ∧ v ≤ 20 → alw kd v → (B v = 0 ∨ B v = 1) ∧ (∀ r, RV r0 p r → r 82 p = v → ∃ r', d_x8_isSo N r (h : Int) (s : Int) 1 = some (r', B v) ∧ RV r0 p r'))
    (B' : Int → Int) (hB1 : ∀ v, alw kd v → B' v = B v) {x3 : Int} (hx3 : 4 ≤ x3 ∧ x3 ≤ 2147483647) {lo : Int} (hlo : lo = if kd = 13 then 1 else 0) :
    ∀ (k m : Nat) (r : St) (v : Int), (k : Int) = v + 1 - lo → v ≤ 20 → (kd = 13 → v ≤ 9) → k < m → RV r0 p r →
      ∃ r', d_x8_tells_224L N m r (h : Int) (s : Int) x3 (p : Int) (r0 82 p) (sg B' (20 - v).toNat) (gg B' (20 - v).toNat) v = some (r', if x3 % 4 = 0 then sg B' (21 - lo).toNat else gg B' (21 - lo).toNat) ∧ (∀ a k, ¬ (a = 77 ∨ (86 ≤ a ∧ a ≤ 93) ∨ (103 ≤ a ∧ a ≤ 109)) → r' a k = r0 a k) ∧ (∀ k, k ≠ 36 → k ≠ 37 → k ≠ 38 → r' 77 k = r0 77 k) ∧ RS r0 r' := by
  have hlo2 : lo = 0 ∨ lo = 1 := by
    rw [hlo]
    split <;> omega
  have to243 : ∀ (m : Nat) (r : St) (x9 x10 v : Int), RV r0 p r → d_x8_tells_224L N (m + 1) r (h : Int) (s : Int) x3 (p : Int) (r0 82 p) x9 x10 v = d_x8_tells_243 N (d_x8_tells_224L N m) r (h : Int) (s : Int) x3 (p : Int) (r0 82 p) x9 x10 v lo v := by
    intro m r x9 x10 v hr
    show d_x8_tells_224 N (d_x8_tells_224L N m) r h s x3 p (r0 82 p) x9 x10 v = _
    unfold d_x8_tells_224
    rw [w32i (x := (p : Int)) (by omega) (by omega), if_pos (by omega), Int.toNat_natCast, hr.1 79 p (by omega), hkd.1, w32i (x := kd) (by omega) (by omega), hlo]
    split <;> rfl
  have tm : Int.tmod x3 4 = x3 % 4 := Int.tmod_eq_emod_of_nonneg (by omega)
  intro k
  induction k with
  | zero =>
    intro m r v hk hv hv9 hm hr
    obtain ⟨m, rfl⟩ : ∃ m', m = m' + 1 := ⟨m - 1, by omega⟩
    rw [to243 m r _ _ v hr]
    unfold d_x8_tells_243
    rw [w32i (x := v) (by omega) (by omega), w32i (x := lo) (by omega) (by omega), if_pos (by omega), w32i (x := (p : Int)) (by omega) (by omega), if_pos (by omega), bd_eq, Int.toNat_natCast, if_neg (show ¬ (4 : Nat) = 0 by decide), w32i (x := x3) (by omega) (by omega), tm, w32i (x := x3 % 4) (by omega) (by omega)]
    refine ⟨up r 82 p (r0 82 p), ?_, fun a k z => ?_, fun k z y x => ?_, ⟨fun q hq => ?_, fun q hq => ?_⟩⟩
    · rw [show (20 - v).toNat = (21 - lo).toNat by omega]
      split <;> rfl
    · by_cases e : a = 82 ∧ k = p
      · obtain ⟨rfl, rfl⟩ := e
        exact up_same
      · rw [up_app, if_neg e]
        exact hr.1 a k (by omega)
    · rw [up_ne (by omega)]
      exact hr.2.1 k z y x
    · rw [up_ne (by omega), up_ne (by omega), up_ne (by omega), up_ne (by omega), up_ne (by omega)]
      exact hr.2.2.1 q hq
    · rw [up_ne (by omega), up_ne (by omega), up_ne (by omega)]
      exact hr.2.2.2 q hq
  | succ k ih =>
    intro m r v hk hv hv9 hm hr
    obtain ⟨m, rfl⟩ : ∃ m', m = m' + 1 := ⟨m - 1, by omega⟩
    have hv0 : 0 ≤ v := by omega
    have hal : alw kd v := by
      refine ⟨fun z => ⟨?_, hv9 z⟩, fun _ => hv0⟩
      rw [if_pos z] at hlo
      omega
    rw [to243 m r _ _ v hr]
    unfold d_x8_tells_243 d_x8_tells_277 d_x8_tells_292
    rw [w32i (x := v) (by omega) (by omega), w32i (x := lo) (by omega) (by omega), if_neg (by omega), w32i (x := (p : Int)) (by omega) (by omega), if_pos (by omega), bd_eq, Int.toNat_natCast]
    have hrv : RV r0 p (up r 82 p v) := ⟨fun a k z => by rw [up_app, if_neg (by omega)]; exact hr.1 a k z, fun k z y x => by rw [up_ne (by omega)]; exact hr.2.1 k z y x, ⟨fun q hq => by rw [up_ne (by omega), up_ne (by omega), up_ne (by omega), up_ne (by omega), up_ne (by omega)]; exact hr.2.2.1 q hq, fun q hq => by rw [up_ne (by omega), up_ne (by omega), up_ne (by omega)]; exact hr.2.2.2 q hq⟩⟩
    have b := hB v (by omega) hal
    obtain ⟨r', e1, R'⟩ := b.2 _ hrv up_same
    rw [e1, bI_some]
    have hb' := hB1 v hal
    have hsg : sg B' (20 - (v - 1)).toNat = B' v + sg B' (20 - v).toNat := by
      rw [show (20 - (v - 1)).toNat = (20 - v).toNat + 1 by omega]
      show B' (20 - ((20 - v).toNat : Int)) + _ = _
      rw [show (20 : Int) - ((20 - v).toNat : Int) = v by omega]
    have hgg : gg B' (20 - (v - 1)).toNat = if B' v = 1 then v else gg B' (20 - v).toNat := by
      rw [show (20 - (v - 1)).toNat = (20 - v).toNat + 1 by omega]
      show (if B' (20 - ((20 - v).toNat : Int)) = 1 then (20 : Int) - ((20 - v).toNat : Int) else _) = _
      rw [show (20 : Int) - ((20 - v).toNat : Int) = v by omega]
    have i := ih m r' (v - 1) (by omega) (by omega) (fun z => by have := hv9 z; omega) (by omega) R'
    rw [hsg, hgg, hb'] at i
    rcases b.1 with b0 | b0
    · rw [b0, w32_0, if_pos rfl, bd_eq, if_pos rfl, bd_eq]
      rw [b0, if_neg (show ¬ (0 : Int) = 1 by decide), Int.zero_add] at i
      rw [Int.add_zero]
      exact i
    · rw [b0, w32_1, if_neg (show ¬ (1 : Int) = 0 by decide), bd_eq, if_neg (show ¬ (1 : Int) = 0 by decide), bd_eq]
      rw [b0, if_pos rfl, Int.add_comm] at i
      exact i
