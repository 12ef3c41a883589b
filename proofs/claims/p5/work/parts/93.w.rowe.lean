theorem q331 {N x : Nat} (hx : x < 24) {g : St → Option Rs} {s : St} : d_x8_row_331 N g s (x : Int) = some (up s 97 x (s 77 26 - (x : Int)), 0) := by
  unfold d_x8_row_331
  rw [w32i (x := (x : Int)) (by omega) (by omega), if_pos (by omega), bd_eq, Int.toNat_natCast]
theorem q308b {N x : Nat} {g : St → Option Rs} {s : St} {k : Int} (h : s 77 24 = 1) : d_x8_row_308 N g s (x : Int) k = d_x8_row_331 N g s (x : Int) := by
  unfold d_x8_row_308
  rw [h, if_neg (by decide)]
theorem q308n {N x : Nat} {g : St → Option Rs} {s : St} {k : Int} (hk : 0 ≤ k ∧ k ≤ 13) (h : ¬ (k = 6 ∨ k = 7)) : d_x8_row_308 N g s (x : Int) k = d_x8_row_331 N g s (x : Int) := by
  unfold d_x8_row_308
  rw [w32i (x := k) (by omega) (by omega), if_neg (show ¬ k = 6 by omega), if_neg (show ¬ k = 7 by omega)]
  split <;> rfl
theorem q308y {N x : Nat} {g : St → Option Rs} {s s' : St} {k w : Int} (h0 : s 77 24 = 0) (h : k = 6 ∨ k = 7) (e : g s = some (s', w)) : d_x8_row_308 N g s (x : Int) k = d_x8_row_331 N g s' (x : Int) := by
  have q : d_x8_row_327 N g s (x : Int) = d_x8_row_331 N g s' (x : Int) := by
    unfold d_x8_row_327
    rw [e, bV_some]
  unfold d_x8_row_308
  rw [h0, if_pos w32_0, w32i (x := k) (by omega) (by omega)]
  rcases h with h | h
  · rw [if_pos h, q]
  · rw [if_neg (show ¬ k = 6 by omega), if_pos h, q]
theorem q292b {N x : Nat} {g : St → Option Rs} {s : St} {k : Int} (h : s 77 24 = 1) : d_x8_row_292 N g s (x : Int) k = d_x8_row_331 N g s (x : Int) := by
  unfold d_x8_row_292
  rw [h, if_neg (by decide), q308b h]
theorem q292n {N x : Nat} {g : St → Option Rs} {s : St} {k : Int} (hk : 0 ≤ k ∧ k ≤ 13) (h : k ≤ 2) : d_x8_row_292 N g s (x : Int) k = d_x8_row_331 N g s (x : Int) := by
  unfold d_x8_row_292
  rw [w32i (x := k) (by omega) (by omega), if_neg (show ¬ 2 < k by omega), q308n hk (by omega)]
  split <;> rfl
theorem q292y {N x : Nat} {g : St → Option Rs} {s s' : St} {k w : Int} (hk : 0 ≤ k ∧ k ≤ 13) (h0 : s 77 24 = 0) (h : 2 < k) (e : g s = some (s', w)) : d_x8_row_292 N g s (x : Int) k = d_x8_row_308 N g s' (x : Int) k := by
  unfold d_x8_row_292
  rw [h0, if_pos w32_0, w32i (x := k) (by omega) (by omega), if_pos h, e, bV_some]
theorem nro_c {k : Int} (hk : 0 ≤ k ∧ k ≤ 13) : (k ≤ 2 → nro k = 0) ∧ (k = 6 ∨ k = 7 → nro k = 2) ∧ (2 < k → ¬ (k = 6 ∨ k = 7) → nro k = 1) := by
  unfold nro
  split
  · omega
  · split <;> omega
theorem FCr.wide {x y u v : Nat} {c c' : St} (h : FCr x y c c') (h1 : u ≤ x) (h2 : y ≤ v) : FCr u v c c' := fun i k p q s => h i k p (by omega) (by omega)
theorem FMr.wide {x y u v : Nat} {c c' : St} (h : FMr x y c c') (h1 : u ≤ x) (h2 : y ≤ v) : FMr u v c c' := fun i k p q s => h i k p (by omega) (by omega)
def ROK (N x : Nat) (b : Nat → Int) (z n j : Nat) (c r r' : St) : Prop := ∃ c' x' j', x < x' ∧ x' ≤ 24 ∧ j < j' ∧ RD c' r' b z n j' ∧ gd c' r' b z j' ∧ r' 77 26 = (x' : Nat) ∧ FCr x x' c c' ∧ FMr x x' r r' ∧ RWS x x' c' r' ∧ r' 97 x = (x' : Int) - (x : Int) ∧ (j : Int) + SMC c' x' ≤ (j' : Int) + SMC c x ∧ ∀ y F, y ≤ x + 50 → 60 ≤ F → LL N F c x (y + 1) = LL N F c' x' y
def RBD (N x : Nat) (b : Nat → Int) (z n : Nat) (c r r' : St) : Prop := ∃ c' j', RD c' r' b z n j' ∧ bad c' r' ∧ FCr x 24 c c' ∧ FMr x 24 r r' ∧ ∀ y F, y ≤ x + 50 → 60 ≤ F → LL N F c x (y + 1) = bye c'
theorem ROK.fin {N x x' : Nat} {b : Nat → Int} {z n j j' : Nat} {c r c' r2 : St} (hxx : x < x') (hx' : x' ≤ 24) (hj : j < j') (H : RD c' r2 b z n j') (G : gd c' r2 b z j') (h26 : r2 77 26 = (x' : Nat)) (fc : FCr x x' c c') (fm : FMr x x' r r2) (pk : PK c' r2 x) (k4 : 0 ≤ c' 4 x ∧ c' 4 x ≤ 13) (rest : RWS (x + 1) x' c' r2) (sp : (nro (c' 4 x) = 0 ∧ x' = x + 1) ∨ (nro (c' 4 x) = 1 ∧ x + 1 < x' ∧ r2 97 (x + 1) = (x' : Int) - ((x + 1 : Nat) : Int)) ∨ (nro (c' 4 x) = 2 ∧ ∃ x2 : Nat, x + 1 < x2 ∧ x2 < x' ∧ r2 97 (x + 1) = (x2 : Int) - ((x + 1 : Nat) : Int) ∧ r2 97 x2 = (x' : Int) - (x2 : Int))) (tok : (j : Int) + SMC c' x' ≤ (j' : Int) + SMC c x) (ll : ∀ y F, y ≤ x + 50 → 60 ≤ F → LL N F c x (y + 1) = LL N F c' x' y) : ROK N x b z n j c r (up r2 97 x (r2 77 26 - (x : Int))) := by
  refine ⟨c', x', j', hxx, hx', hj, H.upr (by omega), G.upr (by omega), by rw [up_ne (by decide)]; exact h26, fc, fun a k p q s => by rw [up_o (by omega)]; exact fm a k p q s, ?_, by rw [up_same, h26], tok, ll⟩
  have e97 : ∀ q, q ≠ x → sp97 (up r2 97 x (r2 77 26 - (x : Int))) q = sp97 r2 q := fun q hq => by
    unfold sp97
    rw [up_nj hq]
  have e97x : sp97 (up r2 97 x (r2 77 26 - (x : Int))) x = x' - x := by
    unfold sp97
    rw [up_same, h26]
    omega
  have rest' : RWS (x + 1) x' c' (up r2 97 x (r2 77 26 - (x : Int))) := rest.cong (fun _ _ _ _ _ _ => rfl) (fun _ _ _ => rfl) (fun a k _ _ h _ => up_nj (by omega)) (fun k _ _ => up_ne (by decide))
  intro p h1 h2
  by_cases q : p = x
  · subst q
    refine ⟨pk.cong (fun _ _ _ => rfl) (fun _ _ => rfl) (fun a _ _ h => up_ne h) (fun i _ => up_ne (by decide)), k4, ?_, by rw [up_same, h26]; omega⟩
    unfold SPN
    rw [e97x, e97 (p + 1) (by omega)]
    refine ⟨by omega, by omega, ?_⟩
    rcases sp with ⟨s1, s2⟩ | ⟨s1, s2, s3⟩ | ⟨s1, x2, s2, s3, s4, s5⟩
    · exact Or.inl ⟨s1, by omega⟩
    · have : sp97 r2 (p + 1) = x' - (p + 1) := by
        unfold sp97
        rw [s3]
        omega
      exact Or.inr (Or.inl ⟨s1, s2, by omega⟩)
    · have t1 : sp97 r2 (p + 1) = x2 - (p + 1) := by
        unfold sp97
        rw [s4]
        omega
      have t2 : sp97 r2 x2 = x' - x2 := by
        unfold sp97
        rw [s5]
        omega
      rw [t1, show p + 1 + (x2 - (p + 1)) = x2 by omega, e97 x2 (by omega), t2]
      exact Or.inr (Or.inr ⟨s1, by omega, s3, by omega⟩)
  · exact rest' p (by omega) h2
theorem RBD.fin {N x : Nat} (hx : x < 24) {b : Nat → Int} {z n j' : Nat} {c r c' r2 : St} (H : RD c' r2 b z n j') (B : bad c' r2) (fc : FCr x 24 c c') (fm : FMr x 24 r r2) (ll : ∀ y F, y ≤ x + 50 → 60 ≤ F → LL N F c x (y + 1) = bye c') : RBD N x b z n c r (up r2 97 x (r2 77 26 - (x : Int))) :=
  ⟨c', j', H.upr (by omega), B.upr (by omega), fc, fun a k p q s => by rw [up_o (by omega)]; exact fm a k p q s, ll⟩
/-- both read rows -/
theorem r_rows {N : Nat} (hN : 500 ≤ N) {b : Nat → Int} {z n : Nat} : ∀ (f x j : Nat) (c r : St), 26 ≤ f + x → x ≤ 24 → RD c r b z n j → gd c r b z j → r 77 26 = (x : Nat) → ∃ r' w, grw N f r = some (r', w) ∧ (ROK N x b z n j c r r' ∨ RBD N x b z n c r r') := by
  intro f
  induction f with
  | zero => intro x j c r hf hx H G h26; omega
  | succ f ih =>
    intro x j c r hf hx H G h26
    show ∃ r' w, d_x8_row N (grw N f) r = some (r', w) ∧ _
    by_cases x24 : x = 24
    · subst x24
      obtain ⟨c', r', v, w, e1, e2, e3, e4, e5, e6⟩ := H.miss (N := N) (Or.inl G)
      have e : d_x8_row N (grw N f) r = some (r', 0) := by
        unfold d_x8_row d_x8_row_24
        rw [G.2.1, if_pos w32_0, h26, if_pos (show w32 ((24 : Nat) : Int) = 24 from rfl), e2, bV_some]
        split <;> rfl
      exact ⟨r', 0, e, Or.inr ⟨c', j, e3, e4, e5.fr, e6.fr, fun y F hy hF => LL_full hF (by omega) e1 e4⟩⟩
    · have hx' : x < 24 := by omega
      by_cases h1 : r 77 21 = 1
      · obtain ⟨c1, r1, k, e1, e2, hk, j1, hj, H1, fc, fm, g26, h4, cs⟩ := r_prt (g := grw N f) hN hx' H G h26 h1
        rw [e2]
        have st : ∀ y F y' : Nat, y ≤ x + 50 → 60 ≤ F → (y' : Int) = y + nro k → LL N F c x (y + 1) = LL N F c1 (x + 1) y' := fun y F y' hy hF h => LL_step hF hx' (by omega) G.1 e1 h4 hk y' h
        have nk := nro_c hk
        rcases cs with ⟨G1, tk1, P1⟩ | B1
        · have tk2 : (j : Int) + SMC c1 (x + 1) ≤ (j1 : Int) + SMC c x := by
            have e : SMC c1 (x + 1) = SMC c1 x + tkc (c1 4 x) (c1 9 x) := rfl
            have e' : SMC c1 x = SMC c x := SMC.cong (fun k hk => ⟨fc 4 k (by omega) (by omega) (by omega), fc 9 k (by omega) (by omega) (by omega)⟩)
            rw [e, e', h4]
            omega
          by_cases k2 : k ≤ 2
          · have n0 := nk.1 k2
            rw [q292n hk k2, q331 hx']
            refine ⟨_, _, rfl, Or.inl (ROK.fin (x' := x + 1) (by omega) (by omega) hj H1 G1 g26 fc fm P1 (by rw [h4]; exact hk) (fun p h1 h2 => by omega) (Or.inl ⟨by rw [h4]; exact n0, rfl⟩) tk2 (fun y F hy hF => st y F y hy hF (by omega)))⟩
          · obtain ⟨r2, w2, a1, a2⟩ := ih (x + 1) j1 c1 r1 (by omega) (by omega) H1 G1 g26
            rw [q292y hk G1.2.1 (by omega) a1]
            by_cases k67 : k = 6 ∨ k = 7
            · have n2 := nk.2.1 k67
              rcases a2 with ⟨c2, x2, j2, b1, b2, b3, H2, G2, b26, bfc, bfm, bR, b97, btk, bl⟩ | ⟨c2, j2, H2, B2, bfc, bfm, bl⟩
              · obtain ⟨r3, w3, a3, a4⟩ := ih x2 j2 c2 r2 (by omega) (by omega) H2 G2 b26
                rw [q308y G2.2.1 k67 a3, q331 hx']
                rcases a4 with ⟨c3, x3, j3, d1, d2, d3, H3, G3, d26, dfc, dfm, dR, d97, dtk, dl⟩ | ⟨c3, j3, H3, B3, dfc, dfm, dl⟩
                · have k4 : c3 4 x = k := by rw [dfc 4 x (by omega) (by omega) (by omega), bfc 4 x (by omega) (by omega) (by omega)]; exact h4
                  have P3 : PK c3 r3 x := P1.cong (fun a i1 i2 => by rw [dfc a x (by omega) (by omega) (by omega), bfc a x (by omega) (by omega) (by omega)]) (fun i hi => by rw [dfc 10 _ (by omega) (by omega) (by omega), bfc 10 _ (by omega) (by omega) (by omega)]) (fun a i1 i2 _ => by rw [dfm a x (by omega) (by omega) (by omega), bfm a x (by omega) (by omega) (by omega)]) (fun i hi => by rw [dfm 101 _ (by omega) (by omega) (by omega), bfm 101 _ (by omega) (by omega) (by omega)])
                  have R3 : RWS (x + 1) x2 c3 r3 := bR.cong (fun a k i1 i2 i3 i4 => dfc a k (by omega) (by omega) (by omega)) (fun k i1 i2 => dfc 10 k (by omega) (by omega) (by omega)) (fun a k i1 i2 i3 i4 => dfm a k (by omega) (by omega) (by omega)) (fun k i1 i2 => dfm 101 k (by omega) (by omega) (by omega))
                  refine ⟨_, _, rfl, Or.inl (ROK.fin (x' := x3) (by omega) d2 (by omega) H3 G3 d26 ((fc.trans bfc (by omega) (by omega) (by omega)).trans dfc (by omega) (by omega) (by omega)) ((fm.trans bfm (by omega) (by omega) (by omega)).trans dfm (by omega) (by omega) (by omega)) P3 (by rw [k4]; exact hk) (R3.join dR (by omega)) (Or.inr (Or.inr ⟨by rw [k4]; exact n2, x2, b1, d1, ?_, d97⟩)) (by omega) (fun y F hy hF => ?_))⟩
                  · rw [dfm 97 (x + 1) (by omega) (by omega) (by omega)]
                    exact b97
                  · rw [st y F (y + 1 + 1) hy hF (by omega), bl (y + 1) F (by omega) hF, dl y F (by omega) hF]
                · refine ⟨_, _, rfl, Or.inr (RBD.fin hx' H3 B3 (((fc.trans bfc (by omega) (by omega) (by omega)).trans dfc (by omega) (by omega) (by omega))) (((fm.trans bfm (by omega) (by omega) (by omega)).trans dfm (by omega) (by omega) (by omega))) (fun y F hy hF => ?_))⟩
                  rw [st y F (y + 1 + 1) hy hF (by omega), bl (y + 1) F (by omega) hF, dl y F (by omega) hF]
              · rw [q308b B2.2.2.2, q331 hx']
                refine ⟨_, _, rfl, Or.inr (RBD.fin hx' H2 B2 (fc.trans bfc (by omega) (by omega) (by omega)) (fm.trans bfm (by omega) (by omega) (by omega)) (fun y F hy hF => ?_))⟩
                rw [st y F (y + 1 + 1) hy hF (by omega), bl (y + 1) F (by omega) hF]
            · have n1 := nk.2.2 (by omega) k67
              rw [q308n hk k67, q331 hx']
              rcases a2 with ⟨c2, x2, j2, b1, b2, b3, H2, G2, b26, bfc, bfm, bR, b97, btk, bl⟩ | ⟨c2, j2, H2, B2, bfc, bfm, bl⟩
              · have k4 : c2 4 x = k := by rw [bfc 4 x (by omega) (by omega) (by omega)]; exact h4
                have P2 : PK c2 r2 x := P1.cong (fun a i1 i2 => bfc a x (by omega) (by omega) (by omega)) (fun i hi => bfc 10 _ (by omega) (by omega) (by omega)) (fun a i1 i2 _ => bfm a x (by omega) (by omega) (by omega)) (fun i hi => bfm 101 _ (by omega) (by omega) (by omega))
                refine ⟨_, _, rfl, Or.inl (ROK.fin (x' := x2) (by omega) b2 (by omega) H2 G2 b26 (fc.trans bfc (by omega) (by omega) (by omega)) (fm.trans bfm (by omega) (by omega) (by omega)) P2 (by rw [k4]; exact hk) bR (Or.inr (Or.inl ⟨by rw [k4]; exact n1, b1, b97⟩)) (by omega) (fun y F hy hF => ?_))⟩
                rw [st y F (y + 1) hy hF (by omega), bl y F (by omega) hF]
              · refine ⟨_, _, rfl, Or.inr (RBD.fin hx' H2 B2 (fc.trans bfc (by omega) (by omega) (by omega)) (fm.trans bfm (by omega) (by omega) (by omega)) (fun y F hy hF => ?_))⟩
                rw [st y F (y + 1) hy hF (by omega), bl y F (by omega) hF]
        · rw [q292b B1.2.2.2, q331 hx']
          refine ⟨_, _, rfl, Or.inr (RBD.fin hx' H1 B1 (fc.wide (Nat.le_refl _) (by omega)) (fm.wide (Nat.le_refl _) (by omega)) (fun y F hy hF => ?_))⟩
          have nn : 0 ≤ nro k ∧ nro k ≤ 2 := by
            by_cases k2 : k ≤ 2
            · have := nk.1 k2
              omega
            · by_cases k67 : k = 6 ∨ k = 7
              · have := nk.2.1 k67
                omega
              · have := nk.2.2 (by omega) k67
                omega
          rw [st y F (y + (nro k).toNat) hy hF (by omega), LL_bad hF (by omega) (by omega) H1 B1]
      · obtain ⟨c', r', w, e1, e2, e3, e4, e5, e6, e7⟩ := r_nop (g := grw N f) hx' H G h1
        refine ⟨r', w, e2, Or.inr ⟨c', j, e3, e4, e5.wide (Nat.le_refl _) (by omega), e6.fr, fun y F hy hF => ?_⟩⟩
        rw [LL_step hF hx' (by omega) G.1 e1 e7 (by decide) y (by show (y : Int) = y + 0; omega), LL_bad hF (by omega) (by omega) e3 e4]
