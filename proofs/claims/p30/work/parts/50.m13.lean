section
/-- a word that names a kind, on both sides -/
theorem RD.word {N : Nat} {c r : St} {b : Nat → Int} {z n j : Nat} (H : RD c r b z n j) (G : gd c r b z j) (h1 : r 77 21 = 1) : c 13 j = 1 ∧ 0 ≤ c 14 j ∧ c 14 j ≤ 13 ∧ d_x8_kindOf N r = some (r, c 14 j) ∧ ∃ a : Nat, a < z ∧ c 12 j = a ∧ r 77 22 = a ∧ c 11 a = b a ∧ 97 ≤ b a ∧ b a ≤ 122 ∧ (c 14 j = 0 → b a < 105) := by
  have S := H.sort G
  have c13 : c 13 j = 1 ∧ c 14 j ≠ -1 := S.2.2.2.2.2.2.2.2.2.2.1.mp h1
  have jn : j < n := S.2.2.2.2.2.2.2.2.2.2.2.2.2.2.2.2 (by omega)
  obtain ⟨⟨t1, t2, t3, t4, t5, t6, t7⟩, M, h6, hj⟩ := H
  have t := t1 j jn
  have k := G.2.2.2.2 t.1
  have te' := te_le (b := b) t.1
  have es : srt b (bgf b z j) (te b z (bgf b z j)) = 1 := by rw [← t.2.2.1]; exact c13.1
  have so1 : so (b (bgf b z j)) = 1 := by
    have e := es
    unfold srt at e
    split at e
    · exact absurd e (by decide)
    · exact e
  have l := so_1.mp so1
  have e14 : c 14 j = kd b (bgf b z j) (te b z (bgf b z j) - bgf b z j) := by
    rw [t.2.2.2]
    unfold mng
    rw [if_pos es]
  have kk : (-1 ≤ kd b (bgf b z j) (te b z (bgf b z j) - bgf b z j) ∧ kd b (bgf b z j) (te b z (bgf b z j) - bgf b z j) ≤ 13) ∧ (kd b (bgf b z j) (te b z (bgf b z j) - bgf b z j) = 0 → b (bgf b z j) < 105) := by
    unfold kd
    have f := fk_r (b := b) (a := bgf b z j) (n := te b z (bgf b z j) - bgf b z j) 13 1
    split
    · split <;> omega
    · omega
  have kof := m_kof (N := N) M G.2.2.1 (k.2.1 (by omega)) te' l
  rw [← e14] at kof kk
  exact ⟨c13.1, by omega, by omega, kof, bgf b z j, t.1, t.2.1, G.2.2.1, t7 _ t.1, l.1, l.2, kk.2⟩
/-- the model behind the word -/
def MTL (N : Nat) (g : St → Option Rs) (s : St) (x k : Int) : Option Rs := (if (w32 k) = 3 then d_x8_row_122 N g s x k x else (if (w32 k) = 6 then d_x8_row_122 N g s x k x else (if (w32 k) = 10 then d_x8_row_122 N g s x k x else (if (w32 k) = 4 then d_x8_row_140 N g s x k x else (if (w32 k) = 5 then d_x8_row_140 N g s x k x else d_x8_row_149 N g s x k 0 x)))))
theorem mtl_n {N x : Nat} {g : St → Option Rs} {s : St} {k : Int} (hk : 0 ≤ k ∧ k ≤ 13) (h : ¬ (k = 3 ∨ k = 6 ∨ k = 10 ∨ k = 4 ∨ k = 5)) : MTL N g s (x : Int) k = d_x8_row_149 N g s (x : Int) k 0 (x : Int) := by
  unfold MTL
  rw [w32i (x := k) (by omega) (by omega), if_neg (show ¬ k = 3 by omega), if_neg (show ¬ k = 6 by omega), if_neg (show ¬ k = 10 by omega), if_neg (show ¬ k = 4 by omega), if_neg (show ¬ k = 5 by omega)]
theorem mtl_o {N x : Nat} {g : St → Option Rs} {s : St} {k : Int} (h : k = 3 ∨ k = 6 ∨ k = 10) : MTL N g s (x : Int) k = (bI (d_x8_op N s 0) fun s v => d_x8_row_149 N g s (x : Int) k v (x : Int)) := by
  unfold MTL d_x8_row_122
  rw [w32i (x := k) (by omega) (by omega)]
  rcases h with h | h | h
  · rw [if_pos h]
  · rw [if_neg (show ¬ k = 3 by omega), if_pos h]
  · rw [if_neg (show ¬ k = 3 by omega), if_neg (show ¬ k = 6 by omega), if_pos h]
theorem mtl_t {N x : Nat} {g : St → Option Rs} {s : St} {k : Int} (h : k = 4 ∨ k = 5) : MTL N g s (x : Int) k = (bI (d_x8_op N s 1) fun s v => d_x8_row_149 N g s (x : Int) k v (x : Int)) := by
  unfold MTL d_x8_row_140
  rw [w32i (x := k) (by omega) (by omega), if_neg (show ¬ k = 3 by omega), if_neg (show ¬ k = 6 by omega), if_neg (show ¬ k = 10 by omega)]
  rcases h with h | h
  · rw [if_pos h]
  · rw [if_neg (show ¬ k = 4 by omega), if_pos h]
theorem w32x {x : Nat} (hx : x ≤ 200) : w32 (x : Int) = x := w32i (by omega) (by omega)
theorem w32k {k : Int} (hk : 0 ≤ k ∧ k ≤ 13) : w32 k = k := w32i (by omega) (by omega)
theorem p_all {N x : Nat} (hN : 500 ≤ N) (hx : x < 24) {g : St → Option Rs} {c r : St} {b : Nat → Int} {z n j : Nat} {k v : Int} (hk : 0 ≤ k ∧ k ≤ 13) (hv : 0 ≤ v ∧ v ≤ 7) (hv0 : k ≠ 0 → v = 0) (H : RD c r b z n j) (G : gd c r b z j) (I : INI c r x k v) : ∃ c' r' e, (∀ s, d_x0_shape N s k = some (s, ((e : Nat) : Int))) ∧ e ≠ 1000 ∧ d_x2_readPart_97L N N c (x : Int) e 0 = some (c', 0) ∧ MTL N g r (x : Int) k = d_x8_row_292 N g r' (x : Int) k ∧ PQ x k b z n j c r c' r' := by
  rcases k14 hk with e | e | e | e | e | e | e | e | e | e | e | e | e | e <;> subst e
  · obtain ⟨c', r', h1, h2, h3⟩ := p_none (g := g) hN hx (by omega) hv H G I
    exact ⟨c', r', 2 * 14 + 1, fun s => rfl, by decide, h1, (mtl_n (by decide) (by decide)).trans h2, h3⟩
  · have e := hv0 (by decide)
    subst e
    obtain ⟨c', r', h1, h2, h3⟩ := p_ns (g := g) hN hx H G I
    exact ⟨c', r', 2 * 15 + 1, fun s => rfl, by decide, h1, (mtl_n (by decide) (by decide)).trans h2, h3⟩
  · have e := hv0 (by decide)
    subst e
    obtain ⟨c', r', h1, h2, h3⟩ := p_l (g := g) hN hx H G I
    exact ⟨c', r', 2 * 16 + 1, fun s => rfl, by decide, h1, (mtl_n (by decide) (by decide)).trans h2, h3⟩
  · have e := hv0 (by decide)
    subst e
    obtain ⟨c', r', h1, h2, h3⟩ := p_on (g := g) (t := 23) hN hx (Or.inl ⟨rfl, rfl⟩) H G I
    exact ⟨c', r', 2 * 17 + 1, fun s => rfl, by decide, h1, (mtl_o (by decide)).trans h2, h3⟩
  · have e := hv0 (by decide)
    subst e
    obtain ⟨c', r', h1, h2, h3⟩ := p_on (g := g) (t := 24) hN hx (Or.inr ⟨rfl, Or.inl rfl⟩) H G I
    exact ⟨c', r', 2 * 18 + 1, fun s => rfl, by decide, h1, (mtl_t (by decide)).trans h2, h3⟩
  · have e := hv0 (by decide)
    subst e
    obtain ⟨c', r', h1, h2, h3⟩ := p_on (g := g) (t := 24) hN hx (Or.inr ⟨rfl, Or.inr rfl⟩) H G I
    exact ⟨c', r', 2 * 18 + 1, fun s => rfl, by decide, h1, (mtl_t (by decide)).trans h2, h3⟩
  · have e := hv0 (by decide)
    subst e
    obtain ⟨c', r', h1, h2, h3⟩ := p_o (g := g) hN hx (Or.inl rfl) H G I
    exact ⟨c', r', 2 * 19 + 1, fun s => rfl, by decide, h1, (mtl_o (by decide)).trans h2, h3⟩
  · obtain ⟨c', r', h1, h2, h3⟩ := p_none (g := g) hN hx (by omega) hv H G I
    exact ⟨c', r', 2 * 14 + 1, fun s => rfl, by decide, h1, (mtl_n (by decide) (by decide)).trans h2, h3⟩
  · have e := hv0 (by decide)
    subst e
    obtain ⟨c', r', h1, h2, h3⟩ := p_d (g := g) hN hx (Or.inl rfl) H G I
    exact ⟨c', r', 2 * 20 + 1, fun s => rfl, by decide, h1, (mtl_n (by decide) (by decide)).trans h2, h3⟩
  · have e := hv0 (by decide)
    subst e
    obtain ⟨c', r', h1, h2, h3⟩ := p_d (g := g) hN hx (Or.inr rfl) H G I
    exact ⟨c', r', 2 * 20 + 1, fun s => rfl, by decide, h1, (mtl_n (by decide) (by decide)).trans h2, h3⟩
  · have e := hv0 (by decide)
    subst e
    obtain ⟨c', r', h1, h2, h3⟩ := p_o (g := g) hN hx (Or.inr rfl) H G I
    exact ⟨c', r', 2 * 19 + 1, fun s => rfl, by decide, h1, (mtl_o (by decide)).trans h2, h3⟩
  · obtain ⟨c', r', h1, h2, h3⟩ := p_none (g := g) hN hx (by omega) hv H G I
    exact ⟨c', r', 2 * 14 + 1, fun s => rfl, by decide, h1, (mtl_n (by decide) (by decide)).trans h2, h3⟩
  · have e := hv0 (by decide)
    subst e
    obtain ⟨c', r', h1, h2, h3⟩ := p_n (g := g) hN hx H G I
    exact ⟨c', r', 2 * 21 + 1, fun s => rfl, by decide, h1, (mtl_n (by decide) (by decide)).trans h2, h3⟩
  · have e := hv0 (by decide)
    subst e
    obtain ⟨c', r', h1, h2, h3⟩ := p_c (g := g) hN hx H G I
    exact ⟨c', r', 2 * 22 + 1, fun s => rfl, by decide, h1, (mtl_n (by decide) (by decide)).trans h2, h3⟩
theorem e_clr {N x : Nat} (hx : x < 24) {c : St} {k : Int} : d_x5_clearPart N 2 1 c (x : Int) k = some (up (up (up (up (up c 4 x k) 5 x 0) 6 x 0) 7 x 0) 9 x 0, 0) := by
  have g : 0 ≤ (x : Int) ∧ (x : Int) < ((1 * 24 : Nat) : Int) := by omega
  unfold d_x5_clearPart
  rw [w32i (x := (x : Int)) (by omega) (by omega), if_pos g, bd_eq, if_pos g, bd_eq, if_pos g, bd_eq, if_pos g, bd_eq, if_pos g, bd_eq, Int.toNat_natCast]
/-- both read a part whose word names a kind -/
theorem r_prt {N x : Nat} (hN : 500 ≤ N) (hx : x < 24) {g : St → Option Rs} {c r : St} {b : Nat → Int} {z n j : Nat} (H : RD c r b z n j) (G : gd c r b z j) (h26 : r 77 26 = x) (h1 : r 77 21 = 1) : ∃ c' r' k, d_x2_readPart N c (x : Int) = some (c', 0) ∧ d_x8_row N g r = d_x8_row_292 N g r' (x : Int) k ∧ (0 ≤ k ∧ k ≤ 13) ∧ ∃ j', j < j' ∧ RD c' r' b z n j' ∧ FCr x (x + 1) c c' ∧ FMr x (x + 1) r r' ∧ r' 77 26 = ((x + 1 : Nat) : Int) ∧ c' 4 x = k ∧ ((gd c' r' b z j' ∧ (j : Int) + tkc k (c' 9 x) ≤ (j' : Int) ∧ PK c' r' x) ∨ bad c' r') := by
  obtain ⟨c13, k0, k13, kof, a, az, c12, r22, c11, b97, b122, bk0⟩ := H.word (N := N) G h1
  obtain ⟨k, hk⟩ : ∃ k, c 14 j = k := ⟨_, rfl⟩
  have R := H.rng
  have hj := H.2.2.1
  have hz := H.2.1.2.1
  have MB0 := H.2.1
  rw [hk] at kof k0 k13 bk0
  have gx : 0 ≤ (x : Int) ∧ (x : Int) < ((24 : Nat) : Int) := by omega
  have head : ∃ cp rp v, (0 ≤ v ∧ v ≤ 7) ∧ (k ≠ 0 → v = 0) ∧ d_x2_readPart N c (x : Int) = d_x2_readPart_79 N cp (x : Int) k ∧ d_x8_row N g r = d_x8_row_95 N g rp (x : Int) k v (x : Int) ∧ (∀ i m, ¬ (4 ≤ i ∧ i ≤ 9 ∧ m = x) → cp i m = c i m) ∧ (∀ i m, ¬ (i = 77 ∧ m = 26) → ¬ (95 ≤ i ∧ i ≤ 100 ∧ m = x) → rp i m = r i m) ∧ rp 77 26 = (x : Int) + 1 ∧ (cp 4 x = k ∧ cp 5 x = 0 ∧ cp 6 x = v ∧ cp 7 x = 0 ∧ cp 9 x = 0 ∧ rp 95 x = k ∧ rp 100 x = 0) := by
    have A : d_x2_readPart N c (x : Int) = d_x2_readPart_26 N c (x : Int) k := by
      unfold d_x2_readPart
      rw [hj, w32x (x := j) (by omega), if_pos (show 0 ≤ (j : Int) ∧ (j : Int) < ((121 : Nat) : Int) by omega), Int.toNat_natCast, c13, if_pos w32_1, if_pos (show 0 ≤ (j : Int) ∧ (j : Int) < ((121 : Nat) : Int) by omega), hk]
    have B : d_x8_row N g r = (if (w32 k) = 0 then bI (d_x8_byteAt N (up (up (up (up r 77 26 ((x : Int) + 1)) 95 x k) 96 x 0) 100 x 0) (a : Int)) fun s34 v35 => d_x8_row_95 N g s34 (x : Int) k (w32 (v35 - 97)) (x : Int) else d_x8_row_95 N g (up (up (up (up r 77 26 ((x : Int) + 1)) 95 x k) 96 x 0) 100 x 0) (x : Int) k 0 (x : Int)) := by
      unfold d_x8_row
      rw [G.2.1, if_pos w32_0, h1, if_pos w32_1, h26, w32x (x := x) (by omega), if_neg (show ¬ (x : Int) = 24 by omega), bd_eq, kof, bI_some, bd_eq, h26, w32x (x := x) (by omega), if_pos gx, bd_eq, if_pos gx, bd_eq, if_pos gx, bd_eq, Int.toNat_natCast, up_ne (show (77 : Nat) ≠ 100 by decide), up_ne (show (77 : Nat) ≠ 96 by decide), up_ne (show (77 : Nat) ≠ 95 by decide), up_nj (show (22 : Nat) ≠ 26 by decide), r22]
    have C : ∀ s12, s12 = up (up (up (up (up c 4 x k) 5 x 0) 6 x 0) 7 x 0) 9 x 0 → d_x2_readPart_26 N c (x : Int) k = (if (w32 k) = 0 then (d_x2_readPart_79 N (up s12 6 x (b a - 97)) (x : Int) k) else d_x2_readPart_79 N s12 (x : Int) k) := by
      intro s12 hs
      have e6 : s12 1 6 = (j : Int) := by rw [hs, up_ne (by decide), up_ne (by decide), up_ne (by decide), up_ne (by decide), up_ne (by decide)]; exact hj
      have e12 : s12 12 j = (a : Int) := by rw [hs, up_ne (by decide), up_ne (by decide), up_ne (by decide), up_ne (by decide), up_ne (by decide)]; exact c12
      have e11 : s12 11 a = b a := by rw [hs, up_ne (by decide), up_ne (by decide), up_ne (by decide), up_ne (by decide), up_ne (by decide)]; exact c11
      unfold d_x2_readPart_26
      rw [w32k ⟨k0, k13⟩, if_neg (show ¬ k < 0 by omega), e_clr hx, bV_some, ← hs, if_neg (show ¬ k < 0 by omega), e6, w32x (x := j) (by omega), if_pos (show 0 ≤ (j : Int) ∧ (j : Int) < ((121 : Nat) : Int) by omega), Int.toNat_natCast, e12, w32x (x := a) (by omega), if_pos (show 0 ≤ (a : Int) ∧ (a : Int) < ((120 : Nat) : Int) by omega), w32x (x := x) (by omega), if_pos gx, bd_eq, Int.toNat_natCast, Int.toNat_natCast, e11]
    rw [A, B, C _ rfl, w32k ⟨k0, k13⟩]
    by_cases q : k = 0
    · rw [if_pos q, if_pos q, m_byte (b := b) (z := z) (MB0.cong (by rw [up_ne (by decide), up_ne (by decide), up_ne (by decide), up_nj (by decide)]) (fun m => by rw [up_ne (by decide), up_ne (by decide), up_ne (by decide), up_ne (by decide)])) (by omega), bI_some, if_pos az, w32i (x := b a - 97) (by omega) (by omega)]
      have := bk0 q
      refine ⟨_, _, b a - 97, by omega, fun y => absurd q y, rfl, rfl, fun i m h => ?_, fun i m h1 h2 => ?_, ?_, ?_, ?_, ?_, ?_, ?_, ?_, ?_⟩
      · rw [up_o (by omega), up_o (by omega), up_o (by omega), up_o (by omega), up_o (by omega), up_o (by omega)]
      · rw [up_o (by omega), up_o (by omega), up_o (by omega), up_o (by omega)]
      · rw [up_ne (by decide), up_ne (by decide), up_ne (by decide), up_same]
      · rw [up_ne (by decide), up_ne (by decide), up_ne (by decide), up_ne (by decide), up_ne (by decide), up_same]
      · rw [up_ne (by decide), up_ne (by decide), up_ne (by decide), up_ne (by decide), up_same]
      · rw [up_same]
      · rw [up_ne (by decide), up_ne (by decide), up_same]
      · rw [up_ne (by decide), up_same]
      · rw [up_ne (by decide), up_ne (by decide), up_same]
      · rw [up_same]
    · rw [if_neg q, if_neg q]
      refine ⟨_, _, 0, by omega, fun _ => rfl, rfl, rfl, fun i m h => ?_, fun i m h1 h2 => ?_, ?_, ?_, ?_, ?_, ?_, ?_, ?_, ?_⟩
      · rw [up_o (by omega), up_o (by omega), up_o (by omega), up_o (by omega), up_o (by omega)]
      · rw [up_o (by omega), up_o (by omega), up_o (by omega), up_o (by omega)]
      · rw [up_ne (by decide), up_ne (by decide), up_ne (by decide), up_same]
      · rw [up_ne (by decide), up_ne (by decide), up_ne (by decide), up_ne (by decide), up_same]
      · rw [up_ne (by decide), up_ne (by decide), up_ne (by decide), up_same]
      · rw [up_ne (by decide), up_ne (by decide), up_same]
      · rw [up_ne (by decide), up_same]
      · rw [up_same]
      · rw [up_ne (by decide), up_ne (by decide), up_same]
      · rw [up_same]
  obtain ⟨cp, rp, v, hv, hv0, A, B, fc, fm, e26, q4, q5, q6, q7, q9, m95, m100⟩ := head
  have Hp : RD cp (up rp 98 x v) b z n j := ⟨H.1.cong (fun i m _ _ => fc i m (by omega)), H.2.1.cong (by rw [up_ne (by decide)]; exact fm _ _ (by omega) (by omega)) (fun m => by rw [up_ne (by decide)]; exact fm _ _ (by omega) (by omega)), (fc 1 6 (by omega)).trans hj, H.2.2.2⟩
  have e77 : ∀ m, m ≠ 26 → up rp 98 x v 77 m = r 77 m := fun m hm => by
    rw [up_ne (by decide)]
    exact fm _ _ (by omega) (by omega)
  have Gp : gd cp (up rp 98 x v) b z j := by
    have g1 := G
    unfold gd TKM at *
    rw [fc 1 7 (by omega), e77 24 (by decide), e77 22 (by decide), e77 21 (by decide), e77 20 (by decide), e77 23 (by decide)]
    exact g1
  obtain ⟨r', w, e1, e2, e3, e4⟩ := Hp.adv hN Gp (by rw [e77 21 (by decide), h1]; decide) (by rw [e77 21 (by decide), h1]; decide)
  obtain ⟨c2, r2, e, s1, s2, s3, s4, j2, u1, u2, u3, u4, u5, u6, u7⟩ := p_all (g := g) hN hx ⟨k0, k13⟩ hv hv0 e2 e3 (show INI (up cp 1 6 ((j : Int) + 1)) r' x k v from ⟨by rw [up_ne (by decide)]; exact q4, by rw [up_ne (by decide)]; exact q5, by rw [up_ne (by decide)]; exact q6, by rw [up_ne (by decide)]; exact q7, by rw [up_ne (by decide)]; exact q9, by rw [e4 95 x (by omega), up_ne (by decide)]; exact m95, by rw [e4 98 x (by omega), up_same], by rw [e4 100 x (by omega), up_ne (by decide)]; exact m100⟩)
  refine ⟨c2, r2, k, ?_, ?_, ⟨k0, k13⟩, j2, by omega, u2, ?_, ?_, ?_, u6, ?_⟩
  · rw [A]
    unfold d_x2_readPart_79
    rw [bd_eq, fc 1 6 (by omega), hj, s1, bS_some, Int.toNat_natCast, if_neg s2, bd_eq, s3]
  · rw [B]
    unfold d_x8_row_95
    rw [w32x (x := x) (by omega), if_pos gx, bd_eq, Int.toNat_natCast, e1, bV_some]
    exact s4
  · exact FCr.trans (y := x + 1) (w := x) (fun i m p1 p2 p3 => by rw [up_o (by omega)]; exact fc i m (by omega)) u3 (Nat.le_refl _) (Nat.le_refl _) (by omega)
  · exact FMr.trans (y := x + 1) (w := x) (fun i m p1 p2 p3 => by rw [e4 i m (by omega), up_o (by omega)]; exact fm i m (by omega) (by omega)) u4 (Nat.le_refl _) (Nat.le_refl _) (by omega)
  · rw [u5, e4 77 26 (by omega), up_ne (by decide), e26]
    omega
  · rcases u7 with u7 | u7
    · exact Or.inl ⟨u7.1, by have := u7.2.1; omega, u7.2.2⟩
    · exact Or.inr u7
/-- no kind stands there: both miss -/
theorem r_nop {N x : Nat} (hx : x < 24) {g : St → Option Rs} {c r : St} {b : Nat → Int} {z n j : Nat} (H : RD c r b z n j) (G : gd c r b z j) (h1 : r 77 21 ≠ 1) : ∃ c' r' w, d_x2_readPart N c (x : Int) = some (c', 0) ∧ d_x8_row N g r = some (r', w) ∧ RD c' r' b z n j ∧ bad c' r' ∧ FCr x (x + 1) c c' ∧ FM r r' ∧ c' 4 x = 0 := by
  have S := H.sort G
  have R := H.rng
  have hj := H.2.2.1
  have np : ¬ (c 13 j = 1 ∧ c 14 j ≠ -1) := fun q => h1 (S.2.2.2.2.2.2.2.2.2.2.1.mpr q)
  have A : d_x2_readPart N c (x : Int) = d_x2_readPart_26 N c (x : Int) (-1) := by
    unfold d_x2_readPart
    rw [hj, w32x (x := j) (by omega), if_pos (show 0 ≤ (j : Int) ∧ (j : Int) < ((121 : Nat) : Int) by omega), Int.toNat_natCast, w32i (x := c 13 j) (by omega) (by omega), if_pos (show 0 ≤ (j : Int) ∧ (j : Int) < ((121 : Nat) : Int) by omega)]
    by_cases q : c 13 j = 1
    · rw [if_pos q, show c 14 j = -1 by omega]
    · rw [if_neg q]
  have H2 : RD (up (up (up (up (up c 4 x 0) 5 x 0) 6 x 0) 7 x 0) 9 x 0) r b z n j := ((((H.upc (by omega)).upc (by omega)).upc (by omega)).upc (by omega)).upc (by omega)
  have G2 : gd (up (up (up (up (up c 4 x 0) 5 x 0) 6 x 0) 7 x 0) 9 x 0) r b z j := ((((G.upc (by omega)).upc (by omega)).upc (by omega)).upc (by omega)).upc (by omega)
  obtain ⟨c', r', v, w, e1, e2, e3, e4, e5, e6⟩ := H2.miss (N := N) (Or.inl G2)
  refine ⟨c', r', 0, ?_, ?_, e3, e4, ?_, e6, ?_⟩
  · rw [A]
    unfold d_x2_readPart_26
    rw [if_pos (show w32 (-1) < 0 by decide), e_clr hx, bV_some, if_pos (show w32 (-1) < 0 by decide), e1, bV_some]
  · unfold d_x8_row d_x8_row_24
    rw [G.2.1, if_pos w32_0, w32i (x := r 77 21) (by omega) (by omega), if_neg h1, e2, bV_some]
  · exact FCr.trans (y := x + 1) (w := x) (((((FCr.refl.up (by omega)).up (by omega)).up (by omega)).up (by omega)).up (by omega)) e5.fr (Nat.le_refl _) (Nat.le_refl _) (by omega)
  · rw [e5 4 x (by omega), up_ne (by decide), up_ne (by decide), up_ne (by decide), up_ne (by decide), up_same]
end
section
/-! rows read: what stands in parts x .. x' - 1 -/
def sp97 (r : St) (q : Nat) : Nat := (r 97 q).toNat
def RWS (x x' : Nat) (c r : St) : Prop := ∀ p, x ≤ p → p < x' → PK c r p ∧ (0 ≤ c 4 p ∧ c 4 p ≤ 13) ∧ SPN c (sp97 r) x' p ∧ 0 ≤ r 97 p
def SMC (c : St) (x : Nat) : Int := sm (fun k => tkc (c 4 k) (c 9 k)) x
theorem SMC.cong {c c' : St} {x : Nat} (e : ∀ k, k < x → c' 4 k = c 4 k ∧ c' 9 k = c 9 k) : SMC c' x = SMC c x := sm_congr x (fun k hk => by rw [(e k hk).1, (e k hk).2])
theorem PK.cong {c r c' r' : St} {p : Nat} (H : PK c r p) (e : ∀ a, 4 ≤ a → a ≤ 9 → c' a p = c a p) (e' : ∀ i, i < 8 → c' 10 (8 * p + i) = c 10 (8 * p + i)) (f : ∀ a, 95 ≤ a → a ≤ 100 → a ≠ 97 → r' a p = r a p) (f' : ∀ i, i < 8 → r' 101 (8 * p + i) = r 101 (8 * p + i)) : PK c' r' p := by
  unfold PK at *
  rw [e 4 (by omega) (by omega), e 5 (by omega) (by omega), e 6 (by omega) (by omega), e 7 (by omega) (by omega), e 9 (by omega) (by omega), f 95 (by omega) (by omega) (by omega), f 96 (by omega) (by omega) (by omega), f 98 (by omega) (by omega) (by omega), f 99 (by omega) (by omega) (by omega), f 100 (by omega) (by omega) (by omega)]
  obtain ⟨h1, h2, h3, h4⟩ := H
  refine ⟨h1, h2, h3, fun q i hi => ?_⟩
  have k := h2
  unfold KO at k
  have m := k.2.2.2.1 q
  rw [e' i (by omega), f' i (by omega)]
  exact h4 q i hi
theorem SPN.cong {c c' : St} {sp sp' : Nat → Nat} {x n p : Nat} (H : SPN c sp n p) (hp : x ≤ p) (e : c' 4 p = c 4 p) (f : ∀ q, x ≤ q → q < n → sp' q = sp q) : SPN c' sp' n p := by
  unfold SPN at *
  obtain ⟨h1, h2, h3⟩ := H
  rw [e, f p hp (by omega)]
  refine ⟨h1, h2, ?_⟩
  rcases h3 with h | ⟨a, b, h⟩ | ⟨a, b, d, h⟩
  · exact Or.inl h
  · refine Or.inr (Or.inl ⟨a, b, ?_⟩)
    rw [f (p + 1) (by omega) b]
    exact h
  · refine Or.inr (Or.inr ⟨a, b, ?_, ?_⟩)
    · rw [f (p + 1) (by omega) b]
      exact d
    · rw [f (p + 1) (by omega) b, f _ (by omega) d]
      exact h
theorem SPN.mono {c : St} {sp : Nat → Nat} {n n' p : Nat} (H : SPN c sp n p) (h : n ≤ n') : SPN c sp n' p := by
  unfold SPN at *
  obtain ⟨h1, h2, h3⟩ := H
  refine ⟨h1, by omega, ?_⟩
  rcases h3 with h | ⟨a, b, h⟩ | ⟨a, b, d, h⟩
  · exact Or.inl h
  · exact Or.inr (Or.inl ⟨a, by omega, h⟩)
  · exact Or.inr (Or.inr ⟨a, by omega, by omega, h⟩)
theorem RWS.cong {x x' : Nat} {c r c' r' : St} (H : RWS x x' c r) (e : ∀ a k, 4 ≤ a → a ≤ 9 → x ≤ k → k < x' → c' a k = c a k) (e' : ∀ k, 8 * x ≤ k → k < 8 * x' → c' 10 k = c 10 k) (f : ∀ a k, 95 ≤ a → a ≤ 100 → x ≤ k → k < x' → r' a k = r a k) (f' : ∀ k, 8 * x ≤ k → k < 8 * x' → r' 101 k = r 101 k) : RWS x x' c' r' := by
  intro p h1 h2
  obtain ⟨a1, a2, a3, a4⟩ := H p h1 h2
  refine ⟨a1.cong (fun a i1 i2 => e a p i1 i2 h1 h2) (fun i hi => e' _ (by omega) (by omega)) (fun a i1 i2 _ => f a p i1 i2 h1 h2) (fun i hi => f' _ (by omega) (by omega)), by rw [e 4 p (by omega) (by omega) h1 h2]; exact a2, a3.cong h1 (e 4 p (by omega) (by omega) h1 h2) (fun q i1 i2 => ?_), by rw [f 97 p (by omega) (by omega) h1 h2]; exact a4⟩
  unfold sp97
  rw [f 97 q (by omega) (by omega) i1 i2]
theorem RWS.join {x y w : Nat} {c r : St} (A : RWS x y c r) (B : RWS y w c r) (h : y ≤ w) : RWS x w c r := by
  intro p h1 h2
  by_cases q : p < y
  · obtain ⟨a1, a2, a3, a4⟩ := A p h1 q
    exact ⟨a1, a2, a3.mono h, a4⟩
  · exact B p (by omega) h2
/-! the class's loop over rows -/
def LL (N F : Nat) (c : St) (x y : Nat) : Option Rs := d_x2_readTape_18L N (F - x) c (x : Int) (y : Int)
def bye (c : St) : Option Rs := some (up c 1 1 0, -100 - c 1 7)
theorem e_84b {N : Nat} {c r : St} {x : Int} (B : bad c r) : d_x2_readTape_84 N c x = bye c := by
  unfold d_x2_readTape_84 bye
  have := B.2
  rw [bd_eq, up_nj (show (7 : Nat) ≠ 1 by decide), w32i (x := c 1 7) (by omega) (by omega), if_neg (by omega)]
theorem e_80b {N : Nat} {c r : St} {x : Int} (B : bad c r) : d_x2_readTape_80 N c x = bye c := by
  have h : d_x2_miss N c = some (c, 0) := by
    unfold d_x2_miss
    have := B.2
    rw [w32i (x := c 1 7) (by omega) (by omega), if_neg (by omega)]
  unfold d_x2_readTape_80
  rw [h, bV_some, e_84b B]
theorem e_64b {N : Nat} {c r : St} {b : Nat → Int} {z n j : Nat} {x y : Int} (H : RD c r b z n j) (B : bad c r) : d_x2_readTape_64 N c x y = bye c := by
  have R := H.rng
  unfold d_x2_readTape_64
  rw [H.2.2.1, w32i (x := (j : Int)) (by omega) (by omega), if_pos (show 0 ≤ (j : Int) ∧ (j : Int) < ((121 : Nat) : Int) by omega), e_80b B, e_84b B]
  split
  · rfl
  · split <;> rfl
theorem LL_bad {N F x y : Nat} (hF : 60 ≤ F) (hx : x ≤ 24) (hy : y ≤ 200) {c r : St} {b : Nat → Int} {z n j : Nat} (H : RD c r b z n j) (B : bad c r) : LL N F c x y = bye c := by
  obtain ⟨m, hm⟩ : ∃ m, F - x = m + 1 := ⟨F - x - 1, by omega⟩
  unfold LL
  rw [hm]
  show d_x2_readTape_18 N (d_x2_readTape_18L N m) c (x : Int) (y : Int) = _
  unfold d_x2_readTape_18
  have := B.2
  rw [w32i (x := c 1 7) (by omega) (by omega), if_neg (show ¬ c 1 7 = -1 by omega), e_64b H B]
  split
  · split <;> rfl
  · rfl
theorem LL_full {N F y : Nat} (hF : 60 ≤ F) (hy : y ≤ 200) {c c' : St} {v : Int} (h : d_x2_miss N c = some (c', v)) {r : St} (B : bad c' r) : LL N F c 24 (y + 1) = bye c' := by
  obtain ⟨m, hm⟩ : ∃ m, F - 24 = m + 1 := ⟨F - 24 - 1, by omega⟩
  unfold LL
  rw [hm]
  show d_x2_readTape_18 N (d_x2_readTape_18L N m) c ((24 : Nat) : Int) ((y + 1 : Nat) : Int) = _
  unfold d_x2_readTape_18 d_x2_readTape_64 d_x2_readTape_80
  rw [if_neg (by decide), w32i (x := ((y + 1 : Nat) : Int)) (by omega) (by omega), if_pos (by omega), h, bV_some, e_84b B]
theorem LL_step {N F x y : Nat} (hF : 60 ≤ F) (hx : x < 24) (hy : y ≤ 200) {c c1 : St} {k : Int} (h7 : c 1 7 = -1) (h : d_x2_readPart N c (x : Int) = some (c1, 0)) (h4 : c1 4 x = k) (hk : 0 ≤ k ∧ k ≤ 13) (y' : Nat) (hy' : (y' : Int) = y + nro k) : LL N F c x (y + 1) = LL N F c1 (x + 1) y' := by
  obtain ⟨m, hm⟩ : ∃ m, F - x = m + 1 := ⟨F - x - 1, by omega⟩
  have hm' : F - (x + 1) = m := by omega
  have e1 : ((y + 1 : Nat) : Int) + (nro k - 1) = (y' : Int) := by omega
  have e2 : (x : Int) + 1 = ((x + 1 : Nat) : Int) := by omega
  unfold LL
  rw [hm, hm']
  show d_x2_readTape_18 N (d_x2_readTape_18L N m) c (x : Int) ((y + 1 : Nat) : Int) = _
  unfold d_x2_readTape_18
  rw [w32i (x := (x : Int)) (by omega) (by omega), if_pos (by omega), w32i (x := ((y + 1 : Nat) : Int)) (by omega) (by omega), if_pos (by omega), h7, if_pos (by decide), h, bV_some, if_pos (by omega), Int.toNat_natCast, h4, e_rows hk, bI_some, bd_eq, bd_eq, e1, e2]
end
section
theorem q331 {N x : Nat} (hx : x < 24) {g : St → Option Rs} {s : St} : d_x8_row_331 N g s (x : Int) = some (up s 97 x (s 77 26 - (x : Int)), 0) := by
  unfold d_x8_row_331
  rw [w32i (x := (x : Int)) (by omega) (by omega), if_pos (by omega), bd_eq, Int.toNat_natCast]
theorem q308b {N x : Nat} {g : St → Option Rs} {s : St} {k : Int} (h : s 77 24 = 1) : d_x8_row_308 N g s (x : Int) k = d_x8_row_331 N g s (x : Int) := by
  unfold d_x8_row_308
  rw [h, if_neg (by decide)]
theorem q308n {N x : Nat} {g : St → Option Rs} {s : St} {k : Int} (hk : 0 ≤ k ∧ k ≤ 13) (h : ¬ (k = 6 ∨ k = 7)) : d_x8_row_308 N g s (x : Int) k = d_x8_row_331 N g s (x : Int) := by
  unfold d_x8_row_308
  rw [w32i (x := k) (by omega) (by omega), if_neg (show ¬ k = 6 by omega), if_neg (show ¬ k = 7 by omega)]
  split <;> rfl
theorem q308y {N x : Nat} {g : St → Option Rs} {s s' : St} {k w : Int} (h0 : s 77 24 = 0) (h : k = 6 ∨ k = 7) (e : g s = some (s', w)) : d_x8_row_308 N g s (x : Int) k = d_x8_row_331 N g s' (x : Int) := by
  have q : d_x8_row_327 N g s (x : Int) = d_x8_row_331 N g s' (x : Int) := by
    unfold d_x8_row_327
    rw [e, bV_some]
  unfold d_x8_row_308
  rw [h0, if_pos w32_0, w32i (x := k) (by omega) (by omega)]
  rcases h with h | h
  · rw [if_pos h, q]
  · rw [if_neg (show ¬ k = 6 by omega), if_pos h, q]
theorem q292b {N x : Nat} {g : St → Option Rs} {s : St} {k : Int} (h : s 77 24 = 1) : d_x8_row_292 N g s (x : Int) k = d_x8_row_331 N g s (x : Int) := by
  unfold d_x8_row_292
  rw [h, if_neg (by decide), q308b h]
theorem q292n {N x : Nat} {g : St → Option Rs} {s : St} {k : Int} (hk : 0 ≤ k ∧ k ≤ 13) (h : k ≤ 2) : d_x8_row_292 N g s (x : Int) k = d_x8_row_331 N g s (x : Int) := by
  unfold d_x8_row_292
  rw [w32i (x := k) (by omega) (by omega), if_neg (show ¬ 2 < k by omega), q308n hk (by omega)]
  split <;> rfl
theorem q292y {N x : Nat} {g : St → Option Rs} {s s' : St} {k w : Int} (hk : 0 ≤ k ∧ k ≤ 13) (h0 : s 77 24 = 0) (h : 2 < k) (e : g s = some (s', w)) : d_x8_row_292 N g s (x : Int) k = d_x8_row_308 N g s' (x : Int) k := by
  unfold d_x8_row_292
  rw [h0, if_pos w32_0, w32i (x := k) (by omega) (by omega), if_pos h, e, bV_some]
theorem nro_c {k : Int} (hk : 0 ≤ k ∧ k ≤ 13) : (k ≤ 2 → nro k = 0) ∧ (k = 6 ∨ k = 7 → nro k = 2) ∧ (2 < k → ¬ (k = 6 ∨ k = 7) → nro k = 1) := by
  unfold nro
  split
  · omega
  · split <;> omega
theorem FCr.wide {x y u v : Nat} {c c' : St} (h : FCr x y c c') (h1 : u ≤ x) (h2 : y ≤ v) : FCr u v c c' := fun i k p q s => h i k p (by omega) (by omega)
theorem FMr.wide {x y u v : Nat} {c c' : St} (h : FMr x y c c') (h1 : u ≤ x) (h2 : y ≤ v) : FMr u v c c' := fun i k p q s => h i k p (by omega) (by omega)
def ROK (N x : Nat) (b : Nat → Int) (z n j : Nat) (c r r' : St) : Prop := ∃ c' x' j', x < x' ∧ x' ≤ 24 ∧ j < j' ∧ RD c' r' b z n j' ∧ gd c' r' b z j' ∧ r' 77 26 = (x' : Nat) ∧ FCr x x' c c' ∧ FMr x x' r r' ∧ RWS x x' c' r' ∧ r' 97 x = (x' : Int) - (x : Int) ∧ (j : Int) + SMC c' x' ≤ (j' : Int) + SMC c x ∧ ∀ y F, y ≤ x + 50 → 60 ≤ F → LL N F c x (y + 1) = LL N F c' x' y
def RBD (N x : Nat) (b : Nat → Int) (z n : Nat) (c r r' : St) : Prop := ∃ c' j', RD c' r' b z n j' ∧ bad c' r' ∧ FCr x 24 c c' ∧ FMr x 24 r r' ∧ ∀ y F, y ≤ x + 50 → 60 ≤ F → LL N F c x (y + 1) = bye c'
theorem ROK.fin {N x x' : Nat} {b : Nat → Int} {z n j j' : Nat} {c r c' r2 : St} (hxx : x < x') (hx' : x' ≤ 24) (hj : j < j') (H : RD c' r2 b z n j') (G : gd c' r2 b z j') (h26 : r2 77 26 = (x' : Nat)) (fc : FCr x x' c c') (fm : FMr x x' r r2) (pk : PK c' r2 x) (k4 : 0 ≤ c' 4 x ∧ c' 4 x ≤ 13) (rest : RWS (x + 1) x' c' r2) (sp : (nro (c' 4 x) = 0 ∧ x' = x + 1) ∨ (nro (c' 4 x) = 1 ∧ x + 1 < x' ∧ r2 97 (x + 1) = (x' : Int) - ((x + 1 : Nat) : Int)) ∨ (nro (c' 4 x) = 2 ∧ ∃ x2 : Nat, x + 1 < x2 ∧ x2 < x' ∧ r2 97 (x + 1) = (x2 : Int) - ((x + 1 : Nat) : Int) ∧ r2 97 x2 = (x' : Int) - (x2 : Int))) (tok : (j : Int) + SMC c' x' ≤ (j' : Int) + SMC c x) (ll : ∀ y F, y ≤ x + 50 → 60 ≤ F → LL N F c x (y + 1) = LL N F c' x' y) : ROK N x b z n j c r (up r2 97 x (r2 77 26 - (x : Int))) := by
  refine ⟨c', x', j', hxx, hx', hj, H.upr (by omega), G.upr (by omega), by rw [up_ne (by decide)]; exact h26, fc, fun a k p q s => by rw [up_o (by omega)]; exact fm a k p q s, ?_, by rw [up_same, h26], tok, ll⟩
  have e97 : ∀ q, q ≠ x → sp97 (up r2 97 x (r2 77 26 - (x : Int))) q = sp97 r2 q := fun q hq => by
    unfold sp97
    rw [up_nj hq]
  have e97x : sp97 (up r2 97 x (r2 77 26 - (x : Int))) x = x' - x := by
    unfold sp97
    rw [up_same, h26]
    omega
  have rest' : RWS (x + 1) x' c' (up r2 97 x (r2 77 26 - (x : Int))) := rest.cong (fun _ _ _ _ _ _ => rfl) (fun _ _ _ => rfl) (fun a k _ _ h _ => up_nj (by omega)) (fun k _ _ => up_ne (by decide))
  intro p h1 h2
  by_cases q : p = x
  · subst q
    refine ⟨pk.cong (fun _ _ _ => rfl) (fun _ _ => rfl) (fun a _ _ h => up_ne h) (fun i _ => up_ne (by decide)), k4, ?_, by rw [up_same, h26]; omega⟩
    unfold SPN
    rw [e97x, e97 (p + 1) (by omega)]
    refine ⟨by omega, by omega, ?_⟩
    rcases sp with ⟨s1, s2⟩ | ⟨s1, s2, s3⟩ | ⟨s1, x2, s2, s3, s4, s5⟩
    · exact Or.inl ⟨s1, by omega⟩
    · have : sp97 r2 (p + 1) = x' - (p + 1) := by
        unfold sp97
        rw [s3]
        omega
      exact Or.inr (Or.inl ⟨s1, s2, by omega⟩)
    · have t1 : sp97 r2 (p + 1) = x2 - (p + 1) := by
        unfold sp97
        rw [s4]
        omega
      have t2 : sp97 r2 x2 = x' - x2 := by
        unfold sp97
        rw [s5]
        omega
      rw [t1, show p + 1 + (x2 - (p + 1)) = x2 by omega, e97 x2 (by omega), t2]
      exact Or.inr (Or.inr ⟨s1, by omega, s3, by omega⟩)
  · exact rest' p (by omega) h2
theorem RBD.fin {N x : Nat} (hx : x < 24) {b : Nat → Int} {z n j' : Nat} {c r c' r2 : St} (H : RD c' r2 b z n j') (B : bad c' r2) (fc : FCr x 24 c c') (fm : FMr x 24 r r2) (ll : ∀ y F, y ≤ x + 50 → 60 ≤ F → LL N F c x (y + 1) = bye c') : RBD N x b z n c r (up r2 97 x (r2 77 26 - (x : Int))) :=
  ⟨c', j', H.upr (by omega), B.upr (by omega), fc, fun a k p q s => by rw [up_o (by omega)]; exact fm a k p q s, ll⟩
/-- both read rows -/
theorem r_rows {N : Nat} (hN : 500 ≤ N) {b : Nat → Int} {z n : Nat} : ∀ (f x j : Nat) (c r : St), 26 ≤ f + x → x ≤ 24 → RD c r b z n j → gd c r b z j → r 77 26 = (x : Nat) → ∃ r' w, grw N f r = some (r', w) ∧ (ROK N x b z n j c r r' ∨ RBD N x b z n c r r') := by
  intro f
  induction f with
  | zero => intro x j c r hf hx H G h26; omega
  | succ f ih =>
    intro x j c r hf hx H G h26
    show ∃ r' w, d_x8_row N (grw N f) r = some (r', w) ∧ _
    by_cases x24 : x = 24
    · subst x24
      obtain ⟨c', r', v, w, e1, e2, e3, e4, e5, e6⟩ := H.miss (N := N) (Or.inl G)
      have e : d_x8_row N (grw N f) r = some (r', 0) := by
        unfold d_x8_row d_x8_row_24
        rw [G.2.1, if_pos w32_0, h26, if_pos (show w32 ((24 : Nat) : Int) = 24 from rfl), e2, bV_some]
        split <;> rfl
      exact ⟨r', 0, e, Or.inr ⟨c', j, e3, e4, e5.fr, e6.fr, fun y F hy hF => LL_full hF (by omega) e1 e4⟩⟩
    · have hx' : x < 24 := by omega
      by_cases h1 : r 77 21 = 1
      · obtain ⟨c1, r1, k, e1, e2, hk, j1, hj, H1, fc, fm, g26, h4, cs⟩ := r_prt (g := grw N f) hN hx' H G h26 h1
        rw [e2]
        have st : ∀ y F y' : Nat, y ≤ x + 50 → 60 ≤ F → (y' : Int) = y + nro k → LL N F c x (y + 1) = LL N F c1 (x + 1) y' := fun y F y' hy hF h => LL_step hF hx' (by omega) G.1 e1 h4 hk y' h
        have nk := nro_c hk
        rcases cs with ⟨G1, tk1, P1⟩ | B1
        · have tk2 : (j : Int) + SMC c1 (x + 1) ≤ (j1 : Int) + SMC c x := by
            have e : SMC c1 (x + 1) = SMC c1 x + tkc (c1 4 x) (c1 9 x) := rfl
            have e' : SMC c1 x = SMC c x := SMC.cong (fun k hk => ⟨fc 4 k (by omega) (by omega) (by omega), fc 9 k (by omega) (by omega) (by omega)⟩)
            rw [e, e', h4]
            omega
          by_cases k2 : k ≤ 2
          · have n0 := nk.1 k2
            rw [q292n hk k2, q331 hx']
            refine ⟨_, _, rfl, Or.inl (ROK.fin (x' := x + 1) (by omega) (by omega) hj H1 G1 g26 fc fm P1 (by rw [h4]; exact hk) (fun p h1 h2 => by omega) (Or.inl ⟨by rw [h4]; exact n0, rfl⟩) tk2 (fun y F hy hF => st y F y hy hF (by omega)))⟩
          · obtain ⟨r2, w2, a1, a2⟩ := ih (x + 1) j1 c1 r1 (by omega) (by omega) H1 G1 g26
            rw [q292y hk G1.2.1 (by omega) a1]
            by_cases k67 : k = 6 ∨ k = 7
            · have n2 := nk.2.1 k67
              rcases a2 with ⟨c2, x2, j2, b1, b2, b3, H2, G2, b26, bfc, bfm, bR, b97, btk, bl⟩ | ⟨c2, j2, H2, B2, bfc, bfm, bl⟩
              · obtain ⟨r3, w3, a3, a4⟩ := ih x2 j2 c2 r2 (by omega) (by omega) H2 G2 b26
                rw [q308y G2.2.1 k67 a3, q331 hx']
                rcases a4 with ⟨c3, x3, j3, d1, d2, d3, H3, G3, d26, dfc, dfm, dR, d97, dtk, dl⟩ | ⟨c3, j3, H3, B3, dfc, dfm, dl⟩
                · have k4 : c3 4 x = k := by rw [dfc 4 x (by omega) (by omega) (by omega), bfc 4 x (by omega) (by omega) (by omega)]; exact h4
                  have P3 : PK c3 r3 x := P1.cong (fun a i1 i2 => by rw [dfc a x (by omega) (by omega) (by omega), bfc a x (by omega) (by omega) (by omega)]) (fun i hi => by rw [dfc 10 _ (by omega) (by omega) (by omega), bfc 10 _ (by omega) (by omega) (by omega)]) (fun a i1 i2 _ => by rw [dfm a x (by omega) (by omega) (by omega), bfm a x (by omega) (by omega) (by omega)]) (fun i hi => by rw [dfm 101 _ (by omega) (by omega) (by omega), bfm 101 _ (by omega) (by omega) (by omega)])
                  have R3 : RWS (x + 1) x2 c3 r3 := bR.cong (fun a k i1 i2 i3 i4 => dfc a k (by omega) (by omega) (by omega)) (fun k i1 i2 => dfc 10 k (by omega) (by omega) (by omega)) (fun a k i1 i2 i3 i4 => dfm a k (by omega) (by omega) (by omega)) (fun k i1 i2 => dfm 101 k (by omega) (by omega) (by omega))
                  refine ⟨_, _, rfl, Or.inl (ROK.fin (x' := x3) (by omega) d2 (by omega) H3 G3 d26 ((fc.trans bfc (by omega) (by omega) (by omega)).trans dfc (by omega) (by omega) (by omega)) ((fm.trans bfm (by omega) (by omega) (by omega)).trans dfm (by omega) (by omega) (by omega)) P3 (by rw [k4]; exact hk) (R3.join dR (by omega)) (Or.inr (Or.inr ⟨by rw [k4]; exact n2, x2, b1, d1, ?_, d97⟩)) (by omega) (fun y F hy hF => ?_))⟩
                  · rw [dfm 97 (x + 1) (by omega) (by omega) (by omega)]
                    exact b97
                  · rw [st y F (y + 1 + 1) hy hF (by omega), bl (y + 1) F (by omega) hF, dl y F (by omega) hF]
                · refine ⟨_, _, rfl, Or.inr (RBD.fin hx' H3 B3 (((fc.trans bfc (by omega) (by omega) (by omega)).trans dfc (by omega) (by omega) (by omega))) (((fm.trans bfm (by omega) (by omega) (by omega)).trans dfm (by omega) (by omega) (by omega))) (fun y F hy hF => ?_))⟩
                  rw [st y F (y + 1 + 1) hy hF (by omega), bl (y + 1) F (by omega) hF, dl y F (by omega) hF]
              · rw [q308b B2.2.2.2, q331 hx']
                refine ⟨_, _, rfl, Or.inr (RBD.fin hx' H2 B2 (fc.trans bfc (by omega) (by omega) (by omega)) (fm.trans bfm (by omega) (by omega) (by omega)) (fun y F hy hF => ?_))⟩
                rw [st y F (y + 1 + 1) hy hF (by omega), bl (y + 1) F (by omega) hF]
            · have n1 := nk.2.2 (by omega) k67
              rw [q308n hk k67, q331 hx']
              rcases a2 with ⟨c2, x2, j2, b1, b2, b3, H2, G2, b26, bfc, bfm, bR, b97, btk, bl⟩ | ⟨c2, j2, H2, B2, bfc, bfm, bl⟩
              · have k4 : c2 4 x = k := by rw [bfc 4 x (by omega) (by omega) (by omega)]; exact h4
                have P2 : PK c2 r2 x := P1.cong (fun a i1 i2 => bfc a x (by omega) (by omega) (by omega)) (fun i hi => bfc 10 _ (by omega) (by omega) (by omega)) (fun a i1 i2 _ => bfm a x (by omega) (by omega) (by omega)) (fun i hi => bfm 101 _ (by omega) (by omega) (by omega))
                refine ⟨_, _, rfl, Or.inl (ROK.fin (x' := x2) (by omega) b2 (by omega) H2 G2 b26 (fc.trans bfc (by omega) (by omega) (by omega)) (fm.trans bfm (by omega) (by omega) (by omega)) P2 (by rw [k4]; exact hk) bR (Or.inr (Or.inl ⟨by rw [k4]; exact n1, b1, b97⟩)) (by omega) (fun y F hy hF => ?_))⟩
                rw [st y F (y + 1) hy hF (by omega), bl y F (by omega) hF]
              · refine ⟨_, _, rfl, Or.inr (RBD.fin hx' H2 B2 (fc.trans bfc (by omega) (by omega) (by omega)) (fm.trans bfm (by omega) (by omega) (by omega)) (fun y F hy hF => ?_))⟩
                rw [st y F (y + 1) hy hF (by omega), bl y F (by omega) hF]
        · rw [q292b B1.2.2.2, q331 hx']
          refine ⟨_, _, rfl, Or.inr (RBD.fin hx' H1 B1 (fc.wide (Nat.le_refl _) (by omega)) (fm.wide (Nat.le_refl _) (by omega)) (fun y F hy hF => ?_))⟩
          have nn : 0 ≤ nro k ∧ nro k ≤ 2 := by
            by_cases k2 : k ≤ 2
            · have := nk.1 k2
              omega
            · by_cases k67 : k = 6 ∨ k = 7
              · have := nk.2.1 k67
                omega
              · have := nk.2.2 (by omega) k67
                omega
          rw [st y F (y + (nro k).toNat) hy hF (by omega), LL_bad hF (by omega) (by omega) H1 B1]
      · obtain ⟨c', r', w, e1, e2, e3, e4, e5, e6, e7⟩ := r_nop (g := grw N f) hx' H G h1
        refine ⟨r', w, e2, Or.inr ⟨c', j, e3, e4, e5.wide (Nat.le_refl _) (by omega), e6.fr, fun y F hy hF => ?_⟩⟩
        rw [LL_step hF hx' (by omega) G.1 e1 e7 (by decide) y (by show (y : Int) = y + 0; omega), LL_bad hF (by omega) (by omega) e3 e4]
end
section
/-- a text read anew at a stream -/
theorem XT.put {T T' : St} (X : XT T) {s n : Nat} (hs : s < 8) (hn : n ≤ 24) (e1 : T' 18 s = n ∧ T' 78 s = n) (hW : ∀ q, q < n → WFp T' (24 * s + q)) (hP : PW T' s)
    (e3 : ∀ a, a < 8 → a ≠ s → T' 18 a = T 18 a ∧ T' 78 a = T 78 a) (e4 : ∀ a q, ((19 ≤ a ∧ a ≤ 24) ∨ (79 ≤ a ∧ a ≤ 84)) → q < 192 → q / 24 ≠ s → T' a q = T a q) (e5 : ∀ a q i, (a = 25 ∨ a = 85) → q < 192 → q / 24 ≠ s → i < 8 → T' a (8 * q + i) = T a (8 * q + i)) : XT T' := by
  have hvp : ∀ p, VP T' p → p / 24 ≠ s → VP T p := by
    intro p hp h
    unfold VP at *
    rw [(e3 _ (by omega) h).1] at hp
    exact hp
  have hvp2 : ∀ p q, p / 24 ≠ s → q / 24 = p / 24 → VP T q → VP T' q := by
    intro p q h1 h2 hq
    unfold VP at *
    rw [(e3 _ (by omega) (by omega)).1]
    exact hq
  refine ⟨⟨fun a ha => ?_, fun p hp => ?_⟩, fun a ha => ?_⟩
  · by_cases h : a = s
    · subst h
      omega
    · have z := e3 a ha h
      rw [z.1, z.2]
      exact X.1.1 a ha
  · by_cases h : p / 24 = s
    · have hp2 := hp.2
      rw [h, e1.1] at hp2
      have := hW (p % 24) (by omega)
      rw [show 24 * s + p % 24 = p by omega] at this
      exact this
    · have hp1 := hp.1
      have w := X.1.2 p (hvp p hp h)
      have ee : ∀ a, ((19 ≤ a ∧ a ≤ 24) ∨ (79 ≤ a ∧ a ≤ 84)) → T' a p = T a p := fun a x => e4 a p x hp1 h
      obtain ⟨w1, w2, w3, w4, w5, w6, w7, w8, w9, w10, w11, w12, w13⟩ := w
      unfold WFp
      rw [ee 19 (by omega), ee 20 (by omega), ee 21 (by omega), ee 22 (by omega), ee 23 (by omega), ee 24 (by omega), ee 79 (by omega), ee 80 (by omega), ee 81 (by omega), ee 82 (by omega), ee 83 (by omega), ee 84 (by omega)]
      refine ⟨w1, w2, w3, w4, fun z => ⟨(w5 z).1, (w5 z).2.1, fun i hi => ?_⟩, w6, w7, w8, w9, w10, w11, fun z => ⟨hvp2 p _ h (w12 z).2 (w12 z).1, (w12 z).2⟩, fun z => ?_⟩
      · have := (w5 z).2.1
        rw [e5 85 p i (by omega) hp1 h (by omega), e5 25 p i (by omega) hp1 h (by omega)]
        exact (w5 z).2.2 i hi
      · have a := w12 (by omega)
        rw [e4 23 (p + 1) (by omega) a.1.1 (by omega)]
        exact ⟨hvp2 p _ h (w13 z).2 (w13 z).1, (w13 z).2⟩
  · by_cases h : a = s
    · subst h
      exact hP
    · have w := X.2 a ha
      have z := e3 a ha h
      have x := X.1.1 a ha
      rcases w with ⟨w1, w2⟩ | w
      · left
        rw [z.1]
        refine ⟨?_, fun k hk h2 i hi => ?_⟩
        · rw [sm_congr (f := fun k => tk T' (24 * a + k)) (g := fun k => tk T (24 * a + k)) (T 18 a).toNat (fun k hk => ?_)]
          · exact w1
          · have hd : (24 * a + k) / 24 = a := by omega
            unfold tk
            rw [e4 19 _ (by omega) (by omega) (by omega), e4 24 _ (by omega) (by omega) (by omega)]
        · rw [e4 19 _ (by omega) (by omega) (by omega)] at h2
          rw [e4 24 _ (by omega) (by omega) (by omega)] at hi
          have hv : VP T (24 * a + k) := ⟨by omega, by rw [(sk (by omega)).1, (sk (by omega)).2]; exact hk⟩
          have := (X.1.2 _ hv).2.2.2.2.1 h2
          rw [e5 25 _ i (by omega) (by omega) (by omega) (by omega)]
          exact w2 k hk h2 i hi
      · right
        rw [z.1, e4 19 _ (by omega) (by omega) (by omega)]
        exact w
/-- a part as it was read is well formed in its text -/
theorem WFp.put {T c r : St} {s n q : Nat} (hs : s < 8) (hq : q < n) (hn : n ≤ 24) (e18 : T 18 s = n) (A : T 19 (24 * s + q) = c 4 q ∧ T 20 (24 * s + q) = c 5 q ∧ T 21 (24 * s + q) = c 6 q ∧ T 22 (24 * s + q) = c 7 q ∧ T 24 (24 * s + q) = c 9 q) (A5 : ∀ l, l < 8 → T 25 (8 * (24 * s + q) + l) = c 10 (8 * q + l)) (B : T 79 (24 * s + q) = r 95 q ∧ T 80 (24 * s + q) = r 96 q ∧ T 81 (24 * s + q) = r 97 q ∧ T 82 (24 * s + q) = r 98 q ∧ T 83 (24 * s + q) = r 99 q ∧ T 84 (24 * s + q) = r 100 q) (B5 : ∀ l, l < 8 → T 85 (8 * (24 * s + q) + l) = r 101 (8 * q + l)) (e23 : ∀ p, p < n → T 23 (24 * s + p) = (sp97 r p : Nat)) (R : RWS 0 n c r) : WFp T (24 * s + q) := by
  obtain ⟨pk, k4, S, h97⟩ := R q (by omega) hq
  obtain ⟨p1, ko, p3, p4⟩ := pk
  obtain ⟨a1, a2, a3, a4, a6⟩ := A
  obtain ⟨b1, b2, b3, b4, b5, b6⟩ := B
  have t23 := e23 q hq
  have hsp : ((sp97 r q : Nat) : Int) = r 97 q := by
    unfold sp97
    omega
  have nk := nro_c k4
  unfold SPN at S
  unfold KO at ko
  obtain ⟨ko1, ko2, ko3, ko4, ko5, ko6, ko7, ko8, ko9, ko10⟩ := ko
  have vp : ∀ p, p < n → VP T (24 * s + p) := fun p hp => ⟨by omega, by rw [(sk (by omega)).1, (sk (by omega)).2, e18]; omega⟩
  unfold WFp
  rw [a1, a2, a3, a4, a6, b1, b2, b3, b4, b5, b6, t23]
  refine ⟨⟨p1.1, p1.2.1, hsp.symm, p1.2.2.2, k4.1, k4.2, by omega, by omega⟩, fun _ => ⟨p1.2.2.1, ko1, ko2⟩, ko3, p3, fun y => ⟨(ko4 y).1, (ko4 y).2, fun i hi => ?_⟩, ko5, ko6, ko7, ko8, ko9, ko10, fun y => ?_, fun y => ?_⟩
  · have := ko4 y
    rw [A5 i (by omega), B5 i (by omega)]
    exact (p4 y i hi).1
  · have q1 : q + 1 < n := by
      rcases S.2.2 with ⟨y1, _⟩ | ⟨_, y2, _⟩ | ⟨_, y2, _⟩
      · by_cases y67 : c 4 q = 6 ∨ c 4 q = 7
        · have := nk.2.1 y67
          omega
        · have := nk.2.2 (by omega) y67
          omega
      · exact y2
      · exact y2
    exact ⟨vp (q + 1) q1, by omega⟩
  · have n2 := nk.2.1 y
    rcases S.2.2 with ⟨y1, _⟩ | ⟨y1, _⟩ | ⟨_, y2, y3, _⟩
    · omega
    · omega
    · rw [show 24 * s + q + 1 = 24 * s + (q + 1) by omega, e23 (q + 1) y2, Int.toNat_natCast, show 24 * s + (q + 1) + sp97 r (q + 1) = 24 * s + (q + 1 + sp97 r (q + 1)) by omega]
      exact ⟨vp _ y3, by omega⟩
theorem tk_tkc {T : St} {p : Nat} : tk T p = tkc (T 19 p) (T 24 p) := rfl
end
section
def TextR (N : Nat) : Prop := ∀ (c r : St) (a0 : Int), r32 a0 → RG c r → Two (d_x7_text N c a0) (d_x8_text N r a0) (QG c r)
theorem QG.read {c r c2 r2 : St} (H : RG c r) (ec : ∀ a k, ¬ (1 ≤ a ∧ a ≤ 14) → c2 a k = c a k) (er : ∀ a k, ¬ (a = 77 ∧ 19 ≤ k ∧ k ≤ 26) → ¬ (95 ≤ a ∧ a ≤ 101) → r2 a k = r a k) (h1 : c2 1 1 = 0) (g1 : r2 77 19 = 0) (v : Int) : QG c r c2 r2 v := by
  refine ⟨⟨?_, H.2.1.cong (fun a k _ _ => ec a k (by omega)) (fun a k _ _ => er a k (by omega) (by omega)), ⟨H.2.2.1.1.cong (fun a k _ _ => ec a k (by omega)), H.2.2.1.2.cong (fun a k _ _ => ec a k (by omega))⟩, H.2.2.2.1.cong (fun a k _ _ => ec a k (by omega)) (ec _ _ (by omega)) (ec _ _ (by omega)) (fun a k _ _ => er a k (by omega) (by omega)) (er _ _ (by omega) (by omega)) (er _ _ (by omega) (by omega)), H.2.2.2.2.1.cong (fun a k _ _ => ec a k (by omega)) (fun a k _ _ => er a k (by omega) (by omega)), H.2.2.2.2.2.1.cong (ec _ _ (by omega)) (er _ _ (by omega) (by omega)), H.2.2.2.2.2.2.cong (ec _ _ (by omega)) (er _ _ (by omega) (by omega))⟩, fun a k _ => ec a k (by omega), fun a k _ => er a k (by omega) (by omega)⟩
  unfold RT
  rw [h1, g1]
  exact ⟨rfl, by omega, by omega, fun i hi => by omega⟩
/-- a text that was refused, on both sides -/
theorem t_bad {N : Nat} {x : Int} {c r c2 r2 : St} {K : St → Int → Option Rs} (H : RG c r) (B : bad c2 r2) (ec : ∀ a k, ¬ (1 ≤ a ∧ a ≤ 14) → c2 a k = c a k) (er : ∀ a k, ¬ (a = 77 ∧ 19 ≤ k ∧ k ≤ 26) → ¬ (95 ≤ a ∧ a ≤ 101) → r2 a k = r a k) : Two (bI (bye c2) fun s3 v4 => (if 0 < (w32 v4) then K s3 v4 else some (s3, v4))) (d_x8_text_51 N r2 x) (QG c r) := by
  have b := B.2
  have b1 := B.1
  unfold bye d_x8_text_51
  refine Two.cL rfl (Two.eL ?_ ?_)
  · rw [w32i (x := -100 - c2 1 7) (by omega) (by omega)]
    omega
  refine Two.bdR (Two.eR ?_ ?_)
  · rw [up_nj (by decide), B.2.2.2]
    decide
  refine Two.ret ?_ (QG.read H (fun a k h => ?_) (fun a k h1 h2 => ?_) up_same up_same _)
  · rw [up_nj (by decide), ← b1]
  · rw [up_o (by omega)]
    exact ec a k h
  · rw [up_o (by omega)]
    exact er a k h1 h2
/-- text() -/
theorem t_text {N : Nat} (hN : 20000 ≤ N) : TextR N := by
  intro c r a0 h0 H
  unfold d_x7_text d_x8_text
  by_cases hs : 0 ≤ a0 ∧ a0 < 8
  · refine Two.cL (S7t h0 hs) (Two.eL (by decide) ?_)
    refine Two.cR (S8t h0 hs) (Two.eR (by decide) ?_)
    obtain ⟨s, rfl⟩ : ∃ s : Nat, a0 = s := ⟨a0.toNat, by omega⟩
    have hs8 : s < 8 := by omega
    have hT := H.1
    unfold RT at hT
    obtain ⟨z, hz⟩ : ∃ z : Nat, c 1 1 = z := ⟨(c 1 1).toNat, by omega⟩
    rw [hz] at hT
    obtain ⟨b, hb⟩ : ∃ b : Nat → Int, ∀ i, c 11 i = b i := ⟨fun i => c 11 i, fun _ => rfl⟩
    obtain ⟨c1, v1, e1, n, Q⟩ := e_splitT (N := N) (by omega) hb (fun i hi => by rw [← hb]; exact (hT.2.2.2 i (by omega)).2) ⟨hz, by omega⟩
    have A : d_x2_readTape N c = LL N N (up (up c1 1 6 0) 1 7 (-1)) 0 (0 + 1) := by
      unfold d_x2_readTape
      rw [e1, bV_some, bd_eq, bd_eq]
      rfl
    have Mr : MB (up (up (up r 77 20 0) 77 24 0) 77 26 0) b z := by
      refine ⟨?_, by omega, fun i hi => ?_⟩
      · rw [up_nj (by decide), up_nj (by decide), up_nj (by decide)]
        exact hT.1
      · rw [up_ne (by decide), up_ne (by decide), up_ne (by decide), ← hb]
        exact hT.2.2.2 i (by omega)
    obtain ⟨r0, v0, m1, m2, m3⟩ : One (d_x8_next N (up (up (up r 77 20 0) 77 24 0) 77 26 0)) (fun r' _ => TKM r' b z 0 ∧ NF (up (up (up r 77 20 0) 77 24 0) 77 26 0) r') := m_next (N := N) (by omega) (j := 0) z N 0 _ (by omega) (by omega) Mr (by rw [up_nj (by decide), up_nj (by decide), up_same]; rfl) rfl
    have T1 : TB c1 b z n := ⟨Q.1.2, Q.2.2.1, Q.2.1, Q.2.2.2.1, Q.2.2.2.2.1, Q.2.2.2.2.2, fun i hi => (Q.1.1 11 i (by omega)).trans (hb i)⟩
    have H0 : RD (up (up c1 1 6 0) 1 7 (-1)) r0 b z n 0 := ⟨T1.cong (fun a k h1 h2 => by rw [up_ne (by omega), up_ne (by omega)]), Mr.nf m3, by rw [up_nj (by decide), up_same]; rfl, Nat.zero_le _⟩
    have G0 : gd (up (up c1 1 6 0) 1 7 (-1)) r0 b z 0 := ⟨up_same, by rw [m3 77 24 (by omega), up_nj (by decide), up_same], m2⟩
    obtain ⟨r1, w1, g1, g2⟩ := r_rows (N := N) (by omega) 30 0 0 _ r0 (by omega) (by omega) H0 G0 (by rw [m3 77 26 (by omega), up_same]; rfl)
    have fc0 : ∀ a k, ¬ (1 ≤ a ∧ a ≤ 14) → up (up c1 1 6 0) 1 7 (-1) a k = c a k := fun a k h => by
      rw [up_ne (by omega), up_ne (by omega)]
      exact Q.1.1 a k (by omega)
    have fm0 : ∀ a k, ¬ (a = 77 ∧ 19 ≤ k ∧ k ≤ 26) → r0 a k = r a k := fun a k h => by
      rw [m3 a k (by omega), up_o (by omega), up_o (by omega), up_o (by omega)]
    refine Two.bdR (Two.bdR (Two.bdR (Two.vR m1 (Two.vR g1 ?_))))
    rw [A]
    rcases g2 with ⟨c2, x2, j2, x1, x24, hj, H2, G2, h26, fc, fm, RW, h97, tok, ll⟩ | ⟨c2, j2, H2, B2, fc, fm, ll⟩
    · have fc2 : ∀ a k, ¬ (1 ≤ a ∧ a ≤ 14) → c2 a k = c a k := fun a k h => (fc a k (by omega) (by omega) (by omega)).trans (fc0 a k h)
      have fm2 : ∀ a k, ¬ (a = 77 ∧ 19 ≤ k ∧ k ≤ 26) → ¬ (95 ≤ a ∧ a ≤ 101) → r1 a k = r a k := fun a k h1 h2 => (fm a k (by omega) (by omega) (by omega)).trans (fm0 a k h1)
      have S := H2.sort G2
      have R := H2.rng
      have stop : LL N N c2 x2 0 = (if c2 13 j2 = 0 then d_x2_readTape_84 N c2 (x2 : Int) else d_x2_readTape_80 N c2 (x2 : Int)) := by
        obtain ⟨m, hm⟩ : ∃ m, N - x2 = m + 1 := ⟨N - x2 - 1, by omega⟩
        have e64 : d_x2_readTape_64 N c2 (x2 : Int) ((0 : Nat) : Int) = (if c2 13 j2 = 0 then d_x2_readTape_84 N c2 (x2 : Int) else d_x2_readTape_80 N c2 (x2 : Int)) := by
          unfold d_x2_readTape_64
          rw [if_neg (by decide), H2.2.2.1, w32i (x := (j2 : Int)) (by omega) (by omega), if_pos (by omega), Int.toNat_natCast, w32i (x := c2 13 j2) (by omega) (by omega)]
        unfold LL
        rw [hm]
        show d_x2_readTape_18 N (d_x2_readTape_18L N m) c2 (x2 : Int) ((0 : Nat) : Int) = _
        unfold d_x2_readTape_18
        rw [if_neg (show ¬ 0 < w32 ((0 : Nat) : Int) by decide), e64]
        split <;> rfl
      rw [ll 0 N (by omega) (by omega), stop]
      refine Two.iR (by rw [G2.2.1]; exact w32_0) ?_
      by_cases q : c2 13 j2 = 0
      · rw [if_pos q]
        refine Two.iR (by rw [w32i (x := r1 77 21) (by omega) (by omega)]; omega) ?_
        obtain ⟨c3, v3, k1, k2, k3, k4⟩ := e_close (N := N) (n := x2) (by omega) ⟨by omega, by omega⟩ (c := up c2 1 1 0) (sp := sp97 r1) (fun p hp => by rw [up_ne (by decide)]; exact (RW p (by omega) hp).2.1) (fun p hp => (RW p (by omega) hp).2.2.1.cong (x := 0) (by omega) (up_ne (by decide)) (fun _ _ _ => rfl))
        obtain ⟨c4, v4, l1, l2, l3, l4⟩ := e_tkR (N := N) hs8 k2 x24
        obtain ⟨r3, p1, p2, p3⟩ := m_copy (N := N) (s := s) (n := x2) (by omega) hs8 x24 x2 N 0 (up (up r1 77 19 0) 78 s (x2 : Int)) (by omega) (by omega) (by rw [up_ne (by decide), up_nj (by decide)]; exact h26)
        have e84 : d_x2_readTape_84 N c2 (x2 : Int) = some (c3, (x2 : Int)) := by
          unfold d_x2_readTape_84
          rw [bd_eq, up_nj (show (7 : Nat) ≠ 1 by decide), G2.1, if_pos (by decide), k1, bV_some]
        -- cells of both texts
        have kc : ∀ a k, ¬ (a = 1 ∧ k = 1) → ¬ (a = 3 ∧ k = 0) → ¬ (a = 8 ∧ k < x2) → c3 a k = c2 a k := fun a k h1 h2 h3 => by
          rw [k4 a k h2 h3, up_o h1]
        have ec4 : ∀ a k, ¬ ((1 ≤ a ∧ a ≤ 14) ∨ (18 ≤ a ∧ a ≤ 25)) → c4 a k = c a k := fun a k h => by
          rw [l4 a k (by omega) (by omega) (by omega), kc a k (by omega) (by omega) (by omega)]
          exact fc2 a k (by omega)
        have er3 : ∀ a k, ¬ (a = 77 ∧ 19 ≤ k ∧ k ≤ 26) → ¬ (78 ≤ a ∧ a ≤ 85) → ¬ (95 ≤ a ∧ a ≤ 101) → r3 a k = r a k := fun a k h1 h2 h3 => by
          rw [p3 a k (by omega) (by omega), up_o (by omega), up_o (by omega)]
          exact fm2 a k h1 h3
        have r95 : ∀ a k, 95 ≤ a → up (up r1 77 19 0) 78 s (x2 : Int) a k = r1 a k := fun a k h => by rw [up_ne (by omega), up_ne (by omega)]
        have TC : ∀ a k, 18 ≤ a → a ≤ 25 → tx c4 r3 a k = c4 a k := fun a k h1 h2 => (tx_ct c4 r3 a k h1 h2).symm
        have TM : ∀ a k, 78 ≤ a → a ≤ 85 → tx c4 r3 a k = r3 a k := fun a k h1 h2 => (tx_rt c4 r3 a k h1 h2).symm
        have e18 : tx c4 r3 18 s = (x2 : Int) := by rw [TC 18 s (by omega) (by omega)]; exact l2
        have e78 : tx c4 r3 78 s = (x2 : Int) := by rw [TM 78 s (by omega) (by omega), p3 78 s (by omega) (by omega), up_same]
        have a19 : ∀ p, p < x2 → tx c4 r3 19 (24 * s + p) = c2 4 p ∧ tx c4 r3 20 (24 * s + p) = c2 5 p ∧ tx c4 r3 21 (24 * s + p) = c2 6 p ∧ tx c4 r3 22 (24 * s + p) = c2 7 p ∧ tx c4 r3 24 (24 * s + p) = c2 9 p := fun p hp => by
          have l := (l3 p hp).1
          rw [TC 19 _ (by omega) (by omega), TC 20 _ (by omega) (by omega), TC 21 _ (by omega) (by omega), TC 22 _ (by omega) (by omega), TC 24 _ (by omega) (by omega), l.1, l.2.1, l.2.2.1, l.2.2.2.1, l.2.2.2.2.2, kc 4 p (by omega) (by omega) (by omega), kc 5 p (by omega) (by omega) (by omega), kc 6 p (by omega) (by omega) (by omega), kc 7 p (by omega) (by omega) (by omega), kc 9 p (by omega) (by omega) (by omega)]
          exact ⟨rfl, rfl, rfl, rfl, rfl⟩
        have a23 : ∀ p, p < x2 → tx c4 r3 23 (24 * s + p) = (sp97 r1 p : Nat) := fun p hp => by
          rw [TC 23 _ (by omega) (by omega), (l3 p hp).1.2.2.2.2.1]
          exact k3 p hp
        have a25 : ∀ p, p < x2 → ∀ l, l < 8 → tx c4 r3 25 (8 * (24 * s + p) + l) = c2 10 (8 * p + l) := fun p hp l hl => by
          rw [TC 25 _ (by omega) (by omega), (l3 p hp).2 l hl, kc 10 _ (by omega) (by omega) (by omega)]
        have a79 : ∀ p, p < x2 → tx c4 r3 79 (24 * s + p) = r1 95 p ∧ tx c4 r3 80 (24 * s + p) = r1 96 p ∧ tx c4 r3 81 (24 * s + p) = r1 97 p ∧ tx c4 r3 82 (24 * s + p) = r1 98 p ∧ tx c4 r3 83 (24 * s + p) = r1 99 p ∧ tx c4 r3 84 (24 * s + p) = r1 100 p := fun p hp => by
          have l := (p2 p (by omega) hp).1
          rw [r95 95 p (by omega), r95 96 p (by omega), r95 97 p (by omega), r95 98 p (by omega), r95 99 p (by omega), r95 100 p (by omega)] at l
          rw [TM 79 _ (by omega) (by omega), TM 80 _ (by omega) (by omega), TM 81 _ (by omega) (by omega), TM 82 _ (by omega) (by omega), TM 83 _ (by omega) (by omega), TM 84 _ (by omega) (by omega)]
          exact l
        have a85 : ∀ p, p < x2 → ∀ l, l < 8 → tx c4 r3 85 (8 * (24 * s + p) + l) = r1 101 (8 * p + l) := fun p hp l hl => by
          rw [TM 85 _ (by omega) (by omega), (p2 p (by omega) hp).2 l hl, r95 101 _ (by omega)]
        have P : PW (tx c4 r3) s := by
          left
          rw [e18, Int.toNat_natCast]
          refine ⟨?_, fun k hk h2 i hi => ?_⟩
          · rw [sm_congr (f := fun k => tk (tx c4 r3) (24 * s + k)) (g := fun k => tkc (c2 4 k) (c2 9 k)) x2 (fun k hk => by
              show tk (tx c4 r3) (24 * s + k) = _
              rw [tk_tkc, (a19 k hk).1, (a19 k hk).2.2.2.2])]
            have t0 : SMC (up (up c1 1 6 0) 1 7 (-1)) 0 = 0 := rfl
            have jn := H2.2.2.2
            have nz := H2.1.2.2.1
            rw [t0] at tok
            show SMC c2 x2 ≤ 120
            omega
          · have hk' : k < x2 := by omega
            rw [(a19 k hk').1] at h2
            rw [(a19 k hk').2.2.2.2] at hi
            have pk := (RW k (by omega) hk').1
            have ko := pk.2.1
            unfold KO at ko
            have i8 := ko.2.2.2.1 h2
            rw [a25 k hk' i (by omega)]
            exact (pk.2.2.2 h2 i hi).2
        have X : XT (tx c4 r3) := by
          refine H.2.1.1.put (s := s) (n := x2) hs8 x24 ⟨e18, e78⟩ (fun q hq => WFp.put hs8 hq x24 e18 (a19 q hq) (a25 q hq) (a79 q hq) (a85 q hq) a23 RW) P (fun a ha ne => ?_) (fun a q ha hq ne => ?_) (fun a q i ha hq ne hi => ?_)
          · constructor
            · refine tx_pt (fun _ => ?_) (fun y => by omega)
              rw [l4 18 a (by omega) (by omega) (by omega), kc 18 a (by omega) (by omega) (by omega)]
              exact fc2 18 a (by omega)
            · refine tx_pt (fun y => by omega) (fun _ => ?_)
              rw [p3 78 a (by omega) (by omega), up_nj (by omega), up_ne (by decide)]
              exact fm2 78 a (by omega) (by omega)
          · refine tx_pt (fun y => ?_) (fun y => ?_)
            · rw [l4 a q (by omega) (by omega) (by omega), kc a q (by omega) (by omega) (by omega)]
              exact fc2 a q (by omega)
            · rw [p3 a q (by omega) (by omega), up_o (by omega), up_ne (by omega)]
              exact fm2 a q (by omega) (by omega)
          · refine tx_pt (fun y => ?_) (fun y => ?_)
            · rw [l4 a _ (by omega) (by omega) (by omega), kc a _ (by omega) (by omega) (by omega)]
              exact fc2 a _ (by omega)
            · rw [p3 a _ (by omega) (by omega), up_o (by omega), up_ne (by omega)]
              exact fm2 a _ (by omega) (by omega)
        have c11 : c4 1 1 = 0 := by
          rw [l4 1 1 (by omega) (by omega) (by omega), k4 1 1 (by omega) (by omega), up_same]
        have r19 : r3 77 19 = 0 := by
          rw [p3 77 19 (by omega) (by omega), up_ne (by decide), up_same]
        have RT4 : RT c4 r3 := by
          unfold RT
          rw [c11, r19]
          exact ⟨rfl, by omega, by omega, fun i hi => by omega⟩
        obtain ⟨c5, r5, w5, w6, u1, u2, uq⟩ := S_unt (N := N) (by omega) (c1 := c4) (r1 := r3) H ec4 (fun a k h1 h2 => er3 a k (by omega) (by omega) (by omega)) (fun k h => er3 77 k (by omega) (by omega) (by omega)) RT4 X
        obtain ⟨r6, w7, u3, _, u4⟩ := e_untells (N := N) (by omega) r3
        rw [u2] at u3
        have e56 : r5 = r6 := congrArg (fun y => (y.getD (r5, 0)).1) u3
        have r26 : r5 77 26 = (x2 : Int) := by
          rw [e56, u4 77 26 (by omega), p3 77 26 (by omega) (by omega), up_ne (by decide), up_nj (by decide)]
          exact h26
        have p1' : d_x8_text_83L N N (up (up r1 77 19 0) 78 s (x2 : Int)) (s : Int) 0 = some (r5, (x2 : Int)) := by
          have y : d_x8_text_83L N N (up (up r1 77 19 0) 78 s (x2 : Int)) (s : Int) 0 = (bV (d_x8_untells N r3) fun s4 => some (s4, (s4 77 26))) := p1
          rw [y, u2, bV_some, r26]
        have B : d_x8_text_51 N r1 (s : Int) = some (r5, (x2 : Int)) := by
          unfold d_x8_text_51
          rw [bd_eq, up_nj (show (24 : Nat) ≠ 19 by decide), G2.2.1, if_pos w32_0, w32i (x := (s : Int)) (by omega) (by omega), if_pos (by omega), bd_eq, Int.toNat_natCast, up_nj (show (26 : Nat) ≠ 19 by decide), h26]
          exact p1'
        rw [e84, B]
        refine Two.cL rfl (Two.iL (by rw [w32i (x := (x2 : Int)) (by omega) (by omega)]; omega) (Two.vL l1 (Two.vL u1 ?_)))
        exact Two.ret rfl (uq _)
      · rw [if_neg q]
        refine Two.eR (by rw [w32i (x := r1 77 21) (by omega) (by omega)]; omega) ?_
        obtain ⟨c3, r3, v, w, y1, y2, y3, y4, y5, y6⟩ := H2.miss (N := N) (Or.inl G2)
        unfold d_x2_readTape_80
        rw [y1, bV_some, e_84b y4]
        refine Two.vR y2 ?_
        exact t_bad H y4 (fun a k h => (y5 a k (by omega)).trans (fc2 a k h)) (fun a k h1 h2 => (y6 a k (by omega)).trans (fm2 a k h1 h2))
    · rw [ll 0 N (by omega) (by omega)]
      refine Two.eR (by rw [B2.2.2.2]; decide) ?_
      exact t_bad H B2 (fun a k h => (fc a k (by omega) (by omega) (by omega)).trans (fc0 a k h)) (fun a k h1 h2 => (fm a k (by omega) (by omega) (by omega)).trans (fm0 a k h1))
  · refine Two.cL (S7f h0 hs) (Two.iL (by decide) ?_)
    refine Two.cR (S8f h0 hs) (Two.iR (by decide) ?_)
    exact Two.ret rfl (QG.refl H _)
end
section
theorem s0_tz (t : Nat) (h : t = 26 ∨ t = 38 ∨ t = 65) : TZ t s0 ∧ KB t s0 := by
  have one : ∀ p : Nat, p < 192 → (if p < 192 then (1 : Int) else 0) = 1 := fun p hp => if_pos hp
  rcases h with e | e | e <;> subst e
  · exact ⟨⟨rfl, fun p hp => ⟨rfl, rfl, one p hp, rfl, rfl, rfl, rfl, fun i _ => rfl⟩⟩, fun k _ => ⟨show (-128 : Int) ≤ 0 by decide, show (0 : Int) ≤ 127 by decide⟩⟩
  · exact ⟨⟨rfl, fun p hp => ⟨rfl, rfl, one p hp, rfl, rfl, rfl, rfl, fun i _ => rfl⟩⟩, fun k _ => ⟨show (-128 : Int) ≤ 0 by decide, show (0 : Int) ≤ 127 by decide⟩⟩
  · exact ⟨⟨rfl, fun p hp => ⟨rfl, rfl, one p hp, rfl, rfl, rfl, rfl, fun i _ => rfl⟩⟩, fun k _ => ⟨show (-128 : Int) ≤ 0 by decide, show (0 : Int) ≤ 127 by decide⟩⟩
theorem s0_tx (a k : Nat) : tx s0 s0 a k = 0 := by
  unfold tx
  split
  · rename_i h
    have : a = 18 ∨ a = 19 ∨ a = 20 ∨ a = 21 ∨ a = 22 ∨ a = 23 ∨ a = 24 ∨ a = 25 := by omega
    rcases this with e | e | e | e | e | e | e | e <;> subst e <;> rfl
  · split
    · rename_i h
      have : a = 78 ∨ a = 79 ∨ a = 80 ∨ a = 81 ∨ a = 82 ∨ a = 83 ∨ a = 84 ∨ a = 85 := by omega
      rcases this with e | e | e | e | e | e | e | e <;> subst e <;> rfl
    · rfl
/-- class and model stand alike at the start -/
theorem s0_rg : RG s0 s0 := by
  have z := s0_tz 26 (by omega)
  have Z : MZ s0 := by
    refine ⟨?_, ?_⟩
    · intro p hp
      exact ⟨rfl, rfl, rfl, rfl, rfl⟩
    · intro k hk
      rfl
  have ts := z.1.ts (T := tx s0 s0) Z z.2
  have X : XT (tx s0 s0) := by
    refine ⟨⟨fun s hs => ?_, fun p hp => ?_⟩, fun s hs => ?_⟩
    · rw [s0_tx, s0_tx]
      decide
    · have := hp.2
      rw [s0_tx] at this
      omega
    · refine Or.inl ⟨?_, fun k hk => ?_⟩
      · rw [s0_tx]
        exact (by decide : (0 : Int) ≤ 120)
      · rw [s0_tx] at hk
        omega
  refine ⟨⟨rfl, by decide, by decide, fun i hi => ?_⟩, ⟨X, ts.1, ts.2, fun p hp => ⟨rfl, fun i _ => (show ¬ (0 : Int) = 2 by decide)⟩⟩, ⟨(s0_tz 38 (by omega)).1.ut (s0_tz 38 (by omega)).2, (s0_tz 65 (by omega)).1.ut (s0_tz 65 (by omega)).2⟩, ⟨rfl, Or.inl rfl⟩, fun h hh => Or.inl ⟨if_pos hh, rfl⟩, ⟨rfl, by decide, by decide⟩, ⟨rfl, by decide, by decide⟩⟩
  exact absurd hi (by show ¬ (i : Int) < 0; omega)
end
section
/-- two calls, one behind the other, from one state -/
theorem step2 {A B : St → Option Rs} (L : ∀ c r, RG c r → Two (A c) (B r) (QG c r)) {s : St} (H : RG s s) : ∃ s1 s2 v, A s = some (s1, v) ∧ B s1 = some (s2, v) ∧ RG s2 s2 := by
  obtain ⟨c1, r1, v, h1, h2, h3⟩ := L s s H
  have H1 : RG s c1 := H.cong (fun _ _ _ => rfl) (fun a k z => h3.2.1 a k z)
  obtain ⟨c2, r2, w, g1, g2, g3⟩ := L s c1 H1
  rw [h1] at g1
  have e1 : c1 = c2 := congrArg (fun z => (z.getD (c1, 0)).1) g1
  have e2 : v = w := congrArg (fun z => (z.getD (c1, 0)).2) g1
  subst e1
  subst e2
  exact ⟨c1, r2, v, h1, g2, g3.1.cong (fun a k z => g3.2.2 a k z) (fun _ _ _ => rfl)⟩
theorem step3 {A B : St → Option Rs} (L : ∀ c r, RG c r → Tw (A c) (B r) (fun c' r' => QG c r c' r' 0)) {s : St} (H : RG s s) : ∃ s1 s2 v w, A s = some (s1, v) ∧ B s1 = some (s2, w) ∧ RG s2 s2 := by
  obtain ⟨c1, r1, v, v', h1, h2, h3⟩ := L s s H
  have H1 : RG s c1 := H.cong (fun _ _ _ => rfl) (fun a k z => h3.2.1 a k z)
  obtain ⟨c2, r2, w, w', g1, g2, g3⟩ := L s c1 H1
  rw [h1] at g1
  have e1 : c1 = c2 := congrArg (fun z => (z.getD (c1, 0)).1) g1
  subst e1
  exact ⟨c1, r2, v, w', h1, g2, g3.1.cong (fun a k z => g3.2.2 a k z) (fun _ _ _ => rfl)⟩
/-- the law comes to its end with true -/
def Gd (X : Option Rs) : Prop := ∃ R, X = some R ∧ R.2 = 1
theorem Gd.i {p : Prop} [Decidable p] {A B : Option Rs} (h : p) (k : Gd A) : Gd (if p then A else B) := by rw [if_pos h]; exact k
theorem Gd.e {p : Prop} [Decidable p] {A B : Option Rs} (h : ¬ p) (k : Gd B) : Gd (if p then A else B) := by rw [if_neg h]; exact k
theorem Gd.c {A : Option Rs} {K : St → Int → Option Rs} {s : St} {v : Int} (h : A = some (s, v)) (k : Gd (K s v)) : Gd (bI A K) := by rw [h]; exact k
theorem Gd.q {A B : Option Rs} {v : Int} (k : Gd A) : Gd (if w32 v = w32 v then A else B) := Gd.i rfl k
theorem Gd.q6 {A B : Option Rs} {v : Int} (k : Gd A) : Gd (if w64 v = w64 v then A else B) := Gd.i rfl k
theorem r32s (x : Int32) : r32 x.toInt := by
  have a := Int32.le_toInt x
  have b := Int32.toInt_lt x
  unfold r32
  omega
set_option maxHeartbeats 1000000 in
theorem law_step {N L : Nat} {xs : Nat → Int32} {k : St → Int → Option Rs} (hN : 20000 ≤ N) (ht : TextR N) {s : St} {x3 : Int} (hL : L ≤ 3072) (hx : 0 ≤ x3 ∧ x3 + 6 ≤ L) (H : RG s s) (ih : ∀ s', RG s' s' → Gd (k s' (x3 + 6))) : Gd (d_law_18 N (L, xs) k s x3) := by
  have fin : ∀ s', RG s' s' → Gd (d_law_1221 N (L, xs) k s' x3) := fun s' h => by
    unfold d_law_1221
    rw [bd_eq]
    exact ih s' h
  have g0 : 0 ≤ w32 x3 ∧ w32 x3 < (L : Int) := by rw [w32i (x := x3) (by omega) (by omega)]; omega
  have g1 : 0 ≤ w32 (x3 + 1) ∧ w32 (x3 + 1) < (L : Int) := by rw [w32i (x := x3 + 1) (by omega) (by omega)]; omega
  have g2 : 0 ≤ w32 (x3 + 2) ∧ w32 (x3 + 2) < (L : Int) := by rw [w32i (x := x3 + 2) (by omega) (by omega)]; omega
  have g3 : 0 ≤ w32 (x3 + 3) ∧ w32 (x3 + 3) < (L : Int) := by rw [w32i (x := x3 + 3) (by omega) (by omega)]; omega
  have g4 : 0 ≤ w32 (x3 + 4) ∧ w32 (x3 + 4) < (L : Int) := by rw [w32i (x := x3 + 4) (by omega) (by omega)]; omega
  have g5 : 0 ≤ w32 (x3 + 5) ∧ w32 (x3 + 5) < (L : Int) := by rw [w32i (x := x3 + 5) (by omega) (by omega)]; omega
  have hz : ¬ w32 ((L : Int) - 6) < w32 x3 := by rw [w32i (x := x3) (by omega) (by omega), w32i (x := (L : Int) - 6) (by omega) (by omega)]; omega
  unfold d_law_18
  refine Gd.e hz (Gd.i g0 ?_)
  show Gd (if (w32 (and32 ((xs (Int.toNat (w32 x3))).toInt) 31)) = 0 then _ else _)
  generalize w32 (and32 ((xs (Int.toNat (w32 x3))).toInt) 31) = q
  by_cases q0 : q = 0
  · refine Gd.i q0 ?_
    refine Gd.i g1 ?_
    obtain ⟨s1, s2, v, e1, e2, H2⟩ := step2 (A := fun c => d_x7_feed N c ((xs (Int.toNat (w32 (x3 + 1)))).toInt)) (B := fun r => d_x8_feed N r ((xs (Int.toNat (w32 (x3 + 1)))).toInt)) (fun c r h => r_feed (r32s _) h) H
    refine Gd.c e1 ?_
    refine Gd.i g1 ?_
    refine Gd.c e2 ?_
    first | exact fin s2 H2 | exact Gd.q (fin s2 H2) | exact Gd.q6 (fin s2 H2)
  refine Gd.e q0 ?_
  by_cases q1 : q = 1
  · refine Gd.i q1 ?_
    refine Gd.i g1 ?_
    obtain ⟨s1, s2, v, e1, e2, H2⟩ := step2 (A := fun c => d_x7_text N c ((xs (Int.toNat (w32 (x3 + 1)))).toInt)) (B := fun r => d_x8_text N r ((xs (Int.toNat (w32 (x3 + 1)))).toInt)) (fun c r h => ht c r _ (r32s _) h) H
    refine Gd.c e1 ?_
    refine Gd.i g1 ?_
    refine Gd.c e2 ?_
    first | exact fin s2 H2 | exact Gd.q (fin s2 H2) | exact Gd.q6 (fin s2 H2)
  refine Gd.e q1 ?_
  by_cases q2 : q = 2
  · refine Gd.i q2 ?_
    refine Gd.i g1 ?_
    obtain ⟨s1, s2, v, e1, e2, H2⟩ := step2 (A := fun c => d_x7_empty N c ((xs (Int.toNat (w32 (x3 + 1)))).toInt)) (B := fun r => d_x8_empty N r ((xs (Int.toNat (w32 (x3 + 1)))).toInt)) (fun c r h => r_empty (by omega) (r32s _) h) H
    refine Gd.c e1 ?_
    refine Gd.i g1 ?_
    refine Gd.c e2 ?_
    first | exact fin s2 H2 | exact Gd.q (fin s2 H2) | exact Gd.q6 (fin s2 H2)
  refine Gd.e q2 ?_
  by_cases q3 : q = 3
  · refine Gd.i q3 ?_
    refine Gd.i g1 ?_
    refine Gd.i g2 ?_
    refine Gd.i g3 ?_
    obtain ⟨s1, s2, v, e1, e2, H2⟩ := step2 (A := fun c => d_x7_part N c ((xs (Int.toNat (w32 (x3 + 1)))).toInt) ((xs (Int.toNat (w32 (x3 + 2)))).toInt) ((xs (Int.toNat (w32 (x3 + 3)))).toInt)) (B := fun r => d_x8_part N r ((xs (Int.toNat (w32 (x3 + 1)))).toInt) ((xs (Int.toNat (w32 (x3 + 2)))).toInt) ((xs (Int.toNat (w32 (x3 + 3)))).toInt)) (fun c r h => r_part (by omega) (r32s _) (r32s _) (r32s _) h) H
    refine Gd.c e1 ?_
    refine Gd.i g1 ?_
    refine Gd.i g2 ?_
    refine Gd.i g3 ?_
    refine Gd.c e2 ?_
    first | exact fin s2 H2 | exact Gd.q (fin s2 H2) | exact Gd.q6 (fin s2 H2)
  refine Gd.e q3 ?_
  by_cases q4 : q = 4
  · refine Gd.i q4 ?_
    refine Gd.i g1 ?_
    refine Gd.i g2 ?_
    obtain ⟨s1, s2, v, e1, e2, H2⟩ := step2 (A := fun c => d_x7_number N c ((xs (Int.toNat (w32 (x3 + 1)))).toInt) ((xs (Int.toNat (w32 (x3 + 2)))).toInt)) (B := fun r => d_x8_number N r ((xs (Int.toNat (w32 (x3 + 1)))).toInt) ((xs (Int.toNat (w32 (x3 + 2)))).toInt)) (fun c r h => r_number (r32s _) (r32s _) h) H
    refine Gd.c e1 ?_
    refine Gd.i g1 ?_
    refine Gd.i g2 ?_
    refine Gd.c e2 ?_
    first | exact fin s2 H2 | exact Gd.q (fin s2 H2) | exact Gd.q6 (fin s2 H2)
  refine Gd.e q4 ?_
  by_cases q5 : q = 5
  · refine Gd.i q5 ?_
    refine Gd.i g1 ?_
    refine Gd.i g2 ?_
    refine Gd.i g3 ?_
    obtain ⟨s1, s2, v, e1, e2, H2⟩ := step2 (A := fun c => d_x7_entry N c ((xs (Int.toNat (w32 (x3 + 1)))).toInt) ((xs (Int.toNat (w32 (x3 + 2)))).toInt) ((xs (Int.toNat (w32 (x3 + 3)))).toInt)) (B := fun r => d_x8_entry N r ((xs (Int.toNat (w32 (x3 + 1)))).toInt) ((xs (Int.toNat (w32 (x3 + 2)))).toInt) ((xs (Int.toNat (w32 (x3 + 3)))).toInt)) (fun c r h => r_entry (r32s _) (r32s _) (r32s _) h) H
    refine Gd.c e1 ?_
    refine Gd.i g1 ?_
    refine Gd.i g2 ?_
    refine Gd.i g3 ?_
    refine Gd.c e2 ?_
    first | exact fin s2 H2 | exact Gd.q (fin s2 H2) | exact Gd.q6 (fin s2 H2)
  refine Gd.e q5 ?_
  by_cases q6 : q = 6
  · refine Gd.i q6 ?_
    refine Gd.i g1 ?_
    refine Gd.i g2 ?_
    refine Gd.i g3 ?_
    obtain ⟨s1, s2, v, e1, e2, H2⟩ := step2 (A := fun c => d_x7_twist N c ((xs (Int.toNat (w32 (x3 + 1)))).toInt) ((xs (Int.toNat (w32 (x3 + 2)))).toInt) ((xs (Int.toNat (w32 (x3 + 3)))).toInt)) (B := fun r => d_x8_twist N r ((xs (Int.toNat (w32 (x3 + 1)))).toInt) ((xs (Int.toNat (w32 (x3 + 2)))).toInt) ((xs (Int.toNat (w32 (x3 + 3)))).toInt)) (fun c r h => r_twist (by omega) (r32s _) (r32s _) (r32s _) h) H
    refine Gd.c e1 ?_
    refine Gd.i g1 ?_
    refine Gd.i g2 ?_
    refine Gd.i g3 ?_
    refine Gd.c e2 ?_
    first | exact fin s2 H2 | exact Gd.q (fin s2 H2) | exact Gd.q6 (fin s2 H2)
  refine Gd.e q6 ?_
  by_cases q7 : q = 7
  · refine Gd.i q7 ?_
    refine Gd.i g1 ?_
    refine Gd.i g2 ?_
    refine Gd.i g3 ?_
    obtain ⟨s1, s2, v, e1, e2, H2⟩ := step2 (A := fun c => d_x7_taken N c ((xs (Int.toNat (w32 (x3 + 1)))).toInt) ((xs (Int.toNat (w32 (x3 + 2)))).toInt) ((xs (Int.toNat (w32 (x3 + 3)))).toInt)) (B := fun r => d_x8_taken N r ((xs (Int.toNat (w32 (x3 + 1)))).toInt) ((xs (Int.toNat (w32 (x3 + 2)))).toInt) ((xs (Int.toNat (w32 (x3 + 3)))).toInt)) (fun c r h => r_taken (r32s _) (r32s _) (r32s _) h) H
    refine Gd.c e1 ?_
    refine Gd.i g1 ?_
    refine Gd.i g2 ?_
    refine Gd.i g3 ?_
    refine Gd.c e2 ?_
    first | exact fin s2 H2 | exact Gd.q (fin s2 H2) | exact Gd.q6 (fin s2 H2)
  refine Gd.e q7 ?_
  by_cases q8 : q = 8
  · refine Gd.i q8 ?_
    refine Gd.i g1 ?_
    refine Gd.i g2 ?_
    obtain ⟨s1, s2, v, e1, e2, H2⟩ := step2 (A := fun c => d_x7_print N c ((xs (Int.toNat (w32 (x3 + 1)))).toInt) ((xs (Int.toNat (w32 (x3 + 2)))).toInt)) (B := fun r => d_x8_print N r ((xs (Int.toNat (w32 (x3 + 1)))).toInt) ((xs (Int.toNat (w32 (x3 + 2)))).toInt)) (fun c r h => r_print (by omega) (r32s _) (r32s _) h) H
    refine Gd.c e1 ?_
    refine Gd.i g1 ?_
    refine Gd.i g2 ?_
    refine Gd.c e2 ?_
    first | exact fin s2 H2 | exact Gd.q (fin s2 H2) | exact Gd.q6 (fin s2 H2)
  refine Gd.e q8 ?_
  by_cases q9 : q = 9
  · refine Gd.i q9 ?_
    refine Gd.i g1 ?_
    refine Gd.i g2 ?_
    obtain ⟨s1, s2, v, e1, e2, H2⟩ := step2 (A := fun c => d_x7_there N c ((xs (Int.toNat (w32 (x3 + 1)))).toInt) ((xs (Int.toNat (w32 (x3 + 2)))).toInt)) (B := fun r => d_x8_there N r ((xs (Int.toNat (w32 (x3 + 1)))).toInt) ((xs (Int.toNat (w32 (x3 + 2)))).toInt)) (fun c r h => r_there (by omega) (r32s _) (r32s _) h) H
    refine Gd.c e1 ?_
    refine Gd.i g1 ?_
    refine Gd.i g2 ?_
    refine Gd.c e2 ?_
    first | exact fin s2 H2 | exact Gd.q (fin s2 H2) | exact Gd.q6 (fin s2 H2)
  refine Gd.e q9 ?_
  by_cases q10 : q = 10
  · refine Gd.i q10 ?_
    refine Gd.i g1 ?_
    refine Gd.i g2 ?_
    obtain ⟨s1, s2, v, e1, e2, H2⟩ := step2 (A := fun c => d_x7_is N c ((xs (Int.toNat (w32 (x3 + 1)))).toInt) ((xs (Int.toNat (w32 (x3 + 2)))).toInt)) (B := fun r => d_x8_is N r ((xs (Int.toNat (w32 (x3 + 1)))).toInt) ((xs (Int.toNat (w32 (x3 + 2)))).toInt)) (fun c r h => (r_is (by omega) (r32s _) (r32s _) h).mono (fun _ _ _ z => z.1)) H
    refine Gd.c e1 ?_
    refine Gd.i g1 ?_
    refine Gd.i g2 ?_
    refine Gd.c e2 ?_
    first | exact fin s2 H2 | exact Gd.q (fin s2 H2) | exact Gd.q6 (fin s2 H2)
  refine Gd.e q10 ?_
  by_cases q11 : q = 11
  · refine Gd.i q11 ?_
    refine Gd.i g1 ?_
    refine Gd.i g2 ?_
    obtain ⟨s1, s2, v, e1, e2, H2⟩ := step2 (A := fun c => d_x7_head N c ((xs (Int.toNat (w32 (x3 + 1)))).toInt) ((xs (Int.toNat (w32 (x3 + 2)))).toInt)) (B := fun r => d_x8_head N r ((xs (Int.toNat (w32 (x3 + 1)))).toInt) ((xs (Int.toNat (w32 (x3 + 2)))).toInt)) (fun c r h => r_head (by omega) (r32s _) (r32s _) h) H
    refine Gd.c e1 ?_
    refine Gd.i g1 ?_
    refine Gd.i g2 ?_
    refine Gd.c e2 ?_
    first | exact fin s2 H2 | exact Gd.q (fin s2 H2) | exact Gd.q6 (fin s2 H2)
  refine Gd.e q11 ?_
  by_cases q12 : q = 12
  · refine Gd.i q12 ?_
    refine Gd.i g1 ?_
    refine Gd.i g2 ?_
    obtain ⟨s1, s2, v, e1, e2, H2⟩ := step2 (A := fun c => d_x7_need N c ((xs (Int.toNat (w32 (x3 + 1)))).toInt) ((xs (Int.toNat (w32 (x3 + 2)))).toInt)) (B := fun r => d_x8_need N r ((xs (Int.toNat (w32 (x3 + 1)))).toInt) ((xs (Int.toNat (w32 (x3 + 2)))).toInt)) (fun c r h => r_need (by omega) (r32s _) (r32s _) h) H
    refine Gd.c e1 ?_
    refine Gd.i g1 ?_
    refine Gd.i g2 ?_
    refine Gd.c e2 ?_
    first | exact fin s2 H2 | exact Gd.q (fin s2 H2) | exact Gd.q6 (fin s2 H2)
  refine Gd.e q12 ?_
  by_cases q13 : q = 13
  · refine Gd.i q13 ?_
    refine Gd.i g1 ?_
    obtain ⟨s1, s2, v, e1, e2, H2⟩ := step2 (A := fun c => d_x7_limit N c ((xs (Int.toNat (w32 (x3 + 1)))).toInt)) (B := fun r => d_x8_limit N r ((xs (Int.toNat (w32 (x3 + 1)))).toInt)) (fun c r h => g_limit (r32s _) h) H
    refine Gd.c e1 ?_
    refine Gd.i g1 ?_
    refine Gd.c e2 ?_
    first | exact fin s2 H2 | exact Gd.q (fin s2 H2) | exact Gd.q6 (fin s2 H2)
  refine Gd.e q13 ?_
  by_cases q14 : q = 14
  · refine Gd.i q14 ?_
    obtain ⟨s1, s2, v, e1, e2, H2⟩ := step2 (A := fun c => d_x7_forget N c ) (B := fun r => d_x8_forget N r ) (fun c r h => r_forget (by omega)  h) H
    refine Gd.c e1 ?_
    refine Gd.c e2 ?_
    first | exact fin s2 H2 | exact Gd.q (fin s2 H2) | exact Gd.q6 (fin s2 H2)
  refine Gd.e q14 ?_
  by_cases q15 : q = 15
  · refine Gd.i q15 ?_
    refine Gd.i g1 ?_
    refine Gd.i g2 ?_
    obtain ⟨s1, s2, v, w, e1, e2, H2⟩ := step3 (A := fun c => d_x7_sum N c ((xs (Int.toNat (w32 (x3 + 1)))).toInt) ((xs (Int.toNat (w32 (x3 + 2)))).toInt)) (B := fun r => d_x8_sum N r ((xs (Int.toNat (w32 (x3 + 1)))).toInt) ((xs (Int.toNat (w32 (x3 + 2)))).toInt)) (fun c r h => r_sum (by omega) (r32s _) (r32s _) h) H
    refine Gd.c e1 ?_
    refine Gd.i g1 ?_
    refine Gd.i g2 ?_
    refine Gd.c e2 ?_
    first | exact fin s2 H2 | exact Gd.q (fin s2 H2) | exact Gd.q6 (fin s2 H2)
  refine Gd.e q15 ?_
  by_cases q16 : q = 16
  · refine Gd.i q16 ?_
    refine Gd.i g1 ?_
    refine Gd.i g2 ?_
    refine Gd.i g3 ?_
    refine Gd.i g4 ?_
    obtain ⟨s1, s2, v, e1, e2, H2⟩ := step2 (A := fun c => d_x7_find N c ((xs (Int.toNat (w32 (x3 + 1)))).toInt) (or64 (shl64 (w32 ((xs (Int.toNat (w32 (x3 + 2)))).toInt)) 32) (and64 (w32 ((xs (Int.toNat (w32 (x3 + 3)))).toInt)) 4294967295)) ((xs (Int.toNat (w32 (x3 + 4)))).toInt)) (B := fun r => d_x8_find N r ((xs (Int.toNat (w32 (x3 + 1)))).toInt) (or64 (shl64 (w32 ((xs (Int.toNat (w32 (x3 + 2)))).toInt)) 32) (and64 (w32 ((xs (Int.toNat (w32 (x3 + 3)))).toInt)) 4294967295)) ((xs (Int.toNat (w32 (x3 + 4)))).toInt)) (fun c r h => r_find (by omega) (r32s _) (r32s _) h) H
    refine Gd.c e1 ?_
    refine Gd.i g1 ?_
    refine Gd.i g2 ?_
    refine Gd.i g3 ?_
    refine Gd.i g4 ?_
    refine Gd.c e2 ?_
    first | exact fin s2 H2 | exact Gd.q (fin s2 H2) | exact Gd.q6 (fin s2 H2)
  refine Gd.e q16 ?_
  by_cases q17 : q = 17
  · refine Gd.i q17 ?_
    refine Gd.i g1 ?_
    refine Gd.i g2 ?_
    refine Gd.i g3 ?_
    obtain ⟨s1, s2, v, e1, e2, H2⟩ := step2 (A := fun c => d_x7_differ N c ((xs (Int.toNat (w32 (x3 + 1)))).toInt) ((xs (Int.toNat (w32 (x3 + 2)))).toInt) ((xs (Int.toNat (w32 (x3 + 3)))).toInt)) (B := fun r => d_x8_differ N r ((xs (Int.toNat (w32 (x3 + 1)))).toInt) ((xs (Int.toNat (w32 (x3 + 2)))).toInt) ((xs (Int.toNat (w32 (x3 + 3)))).toInt)) (fun c r h => r_differ (by omega) (r32s _) (r32s _) (r32s _) h) H
    refine Gd.c e1 ?_
    refine Gd.i g1 ?_
    refine Gd.i g2 ?_
    refine Gd.i g3 ?_
    refine Gd.c e2 ?_
    first | exact fin s2 H2 | exact Gd.q (fin s2 H2) | exact Gd.q6 (fin s2 H2)
  refine Gd.e q17 ?_
  by_cases q18 : q = 18
  · refine Gd.i q18 ?_
    refine Gd.i g1 ?_
    obtain ⟨s1, s2, v, e1, e2, H2⟩ := step2 (A := fun c => d_x7_rises N c ((xs (Int.toNat (w32 (x3 + 1)))).toInt)) (B := fun r => d_x8_rises N r ((xs (Int.toNat (w32 (x3 + 1)))).toInt)) (fun c r h => r_rises (by omega) (r32s _) h) H
    refine Gd.c e1 ?_
    refine Gd.i g1 ?_
    refine Gd.c e2 ?_
    first | exact fin s2 H2 | exact Gd.q (fin s2 H2) | exact Gd.q6 (fin s2 H2)
  refine Gd.e q18 ?_
  by_cases q19 : q = 19
  · refine Gd.i q19 ?_
    refine Gd.i g1 ?_
    refine Gd.i g2 ?_
    refine Gd.i g3 ?_
    obtain ⟨s1, s2, v, e1, e2, H2⟩ := step2 (A := fun c => d_x7_film N c ((xs (Int.toNat (w32 (x3 + 1)))).toInt) ((xs (Int.toNat (w32 (x3 + 2)))).toInt) ((xs (Int.toNat (w32 (x3 + 3)))).toInt)) (B := fun r => d_x8_film N r ((xs (Int.toNat (w32 (x3 + 1)))).toInt) ((xs (Int.toNat (w32 (x3 + 2)))).toInt) ((xs (Int.toNat (w32 (x3 + 3)))).toInt)) (fun c r h => r_film (by omega) (r32s _) (r32s _) (r32s _) h) H
    refine Gd.c e1 ?_
    refine Gd.i g1 ?_
    refine Gd.i g2 ?_
    refine Gd.i g3 ?_
    refine Gd.c e2 ?_
    first | exact fin s2 H2 | exact Gd.q (fin s2 H2) | exact Gd.q6 (fin s2 H2)
  refine Gd.e q19 ?_
  by_cases q20 : q = 20
  · refine Gd.i q20 ?_
    refine Gd.i g1 ?_
    refine Gd.i g2 ?_
    refine Gd.i g3 ?_
    obtain ⟨s1, s2, v, e1, e2, H2⟩ := step2 (A := fun c => d_x7_tells N c ((xs (Int.toNat (w32 (x3 + 1)))).toInt) ((xs (Int.toNat (w32 (x3 + 2)))).toInt) ((xs (Int.toNat (w32 (x3 + 3)))).toInt)) (B := fun r => d_x8_tells N r ((xs (Int.toNat (w32 (x3 + 1)))).toInt) ((xs (Int.toNat (w32 (x3 + 2)))).toInt) ((xs (Int.toNat (w32 (x3 + 3)))).toInt)) (fun c r h => r_tells (by omega) (r32s _) (r32s _) (r32s _) h) H
    refine Gd.c e1 ?_
    refine Gd.i g1 ?_
    refine Gd.i g2 ?_
    refine Gd.i g3 ?_
    refine Gd.c e2 ?_
    first | exact fin s2 H2 | exact Gd.q (fin s2 H2) | exact Gd.q6 (fin s2 H2)
  refine Gd.e q20 ?_
  by_cases q21 : q = 21
  · refine Gd.i q21 ?_
    obtain ⟨s1, s2, v, e1, e2, H2⟩ := step2 (A := fun c => d_x7_image N c ) (B := fun r => d_x8_image N r ) (fun c r h => r_image (by omega)  h) H
    refine Gd.c e1 ?_
    refine Gd.c e2 ?_
    first | exact fin s2 H2 | exact Gd.q (fin s2 H2) | exact Gd.q6 (fin s2 H2)
  refine Gd.e q21 ?_
  by_cases q22 : q = 22
  · refine Gd.i q22 ?_
    obtain ⟨s1, s2, v, e1, e2, H2⟩ := step2 (A := fun c => d_x7_back N c ) (B := fun r => d_x8_back N r ) (fun c r h => r_back (by omega)  h) H
    refine Gd.c e1 ?_
    refine Gd.c e2 ?_
    first | exact fin s2 H2 | exact Gd.q (fin s2 H2) | exact Gd.q6 (fin s2 H2)
  refine Gd.e q22 ?_
  by_cases q23 : q = 23
  · refine Gd.i q23 ?_
    refine Gd.i g1 ?_
    obtain ⟨s1, s2, v, e1, e2, H2⟩ := step2 (A := fun c => d_x7_count N c ((xs (Int.toNat (w32 (x3 + 1)))).toInt)) (B := fun r => d_x8_count N r ((xs (Int.toNat (w32 (x3 + 1)))).toInt)) (fun c r h => r_count (by omega) (r32s _) h) H
    refine Gd.c e1 ?_
    refine Gd.i g1 ?_
    refine Gd.c e2 ?_
    first | exact fin s2 H2 | exact Gd.q (fin s2 H2) | exact Gd.q6 (fin s2 H2)
  refine Gd.e q23 ?_
  by_cases q24 : q = 24
  · refine Gd.i q24 ?_
    refine Gd.i g1 ?_
    refine Gd.i g2 ?_
    refine Gd.i g3 ?_
    obtain ⟨s1, s2, v, e1, e2, H2⟩ := step2 (A := fun c => d_x7_sheet N c ((xs (Int.toNat (w32 (x3 + 1)))).toInt) ((xs (Int.toNat (w32 (x3 + 2)))).toInt) ((xs (Int.toNat (w32 (x3 + 3)))).toInt)) (B := fun r => d_x8_sheet N r ((xs (Int.toNat (w32 (x3 + 1)))).toInt) ((xs (Int.toNat (w32 (x3 + 2)))).toInt) ((xs (Int.toNat (w32 (x3 + 3)))).toInt)) (fun c r h => g_sheet (by omega) (r32s _) (r32s _) (r32s _) h) H
    refine Gd.c e1 ?_
    refine Gd.i g1 ?_
    refine Gd.i g2 ?_
    refine Gd.i g3 ?_
    refine Gd.c e2 ?_
    first | exact fin s2 H2 | exact Gd.q (fin s2 H2) | exact Gd.q6 (fin s2 H2)
  refine Gd.e q24 ?_
  by_cases q25 : q = 25
  · refine Gd.i q25 ?_
    refine Gd.i g1 ?_
    refine Gd.i g2 ?_
    refine Gd.i g3 ?_
    refine Gd.i g4 ?_
    obtain ⟨s1, s2, v, e1, e2, H2⟩ := step2 (A := fun c => d_x7_put N c ((xs (Int.toNat (w32 (x3 + 1)))).toInt) ((xs (Int.toNat (w32 (x3 + 2)))).toInt) (or64 (shl64 (w32 ((xs (Int.toNat (w32 (x3 + 3)))).toInt)) 32) (and64 (w32 ((xs (Int.toNat (w32 (x3 + 4)))).toInt)) 4294967295))) (B := fun r => d_x8_put N r ((xs (Int.toNat (w32 (x3 + 1)))).toInt) ((xs (Int.toNat (w32 (x3 + 2)))).toInt) (or64 (shl64 (w32 ((xs (Int.toNat (w32 (x3 + 3)))).toInt)) 32) (and64 (w32 ((xs (Int.toNat (w32 (x3 + 4)))).toInt)) 4294967295))) (fun c r h => g_put (r32s _) (r32s _) h) H
    refine Gd.c e1 ?_
    refine Gd.i g1 ?_
    refine Gd.i g2 ?_
    refine Gd.i g3 ?_
    refine Gd.i g4 ?_
    refine Gd.c e2 ?_
    first | exact fin s2 H2 | exact Gd.q (fin s2 H2) | exact Gd.q6 (fin s2 H2)
  refine Gd.e q25 ?_
  by_cases q26 : q = 26
  · refine Gd.i q26 ?_
    refine Gd.i g1 ?_
    refine Gd.i g2 ?_
    obtain ⟨s1, s2, v, e1, e2, H2⟩ := step2 (A := fun c => d_x7_item N c ((xs (Int.toNat (w32 (x3 + 1)))).toInt) ((xs (Int.toNat (w32 (x3 + 2)))).toInt)) (B := fun r => d_x8_item N r ((xs (Int.toNat (w32 (x3 + 1)))).toInt) ((xs (Int.toNat (w32 (x3 + 2)))).toInt)) (fun c r h => r_item (r32s _) (r32s _) h) H
    refine Gd.c e1 ?_
    refine Gd.i g1 ?_
    refine Gd.i g2 ?_
    refine Gd.c e2 ?_
    first | exact fin s2 H2 | exact Gd.q (fin s2 H2) | exact Gd.q6 (fin s2 H2)
  refine Gd.e q26 ?_
  by_cases q27 : q = 27
  · refine Gd.i q27 ?_
    refine Gd.i g1 ?_
    refine Gd.i g2 ?_
    refine Gd.i g3 ?_
    refine Gd.i g4 ?_
    refine Gd.i g5 ?_
    obtain ⟨s1, s2, v, e1, e2, H2⟩ := step2 (A := fun c => d_x7_copy N c ((xs (Int.toNat (w32 (x3 + 1)))).toInt) ((xs (Int.toNat (w32 (x3 + 2)))).toInt) ((xs (Int.toNat (w32 (x3 + 3)))).toInt) ((xs (Int.toNat (w32 (x3 + 4)))).toInt) ((xs (Int.toNat (w32 (x3 + 5)))).toInt)) (B := fun r => d_x8_copy N r ((xs (Int.toNat (w32 (x3 + 1)))).toInt) ((xs (Int.toNat (w32 (x3 + 2)))).toInt) ((xs (Int.toNat (w32 (x3 + 3)))).toInt) ((xs (Int.toNat (w32 (x3 + 4)))).toInt) ((xs (Int.toNat (w32 (x3 + 5)))).toInt)) (fun c r h => r_copy (by omega) (r32s _) (r32s _) (r32s _) (r32s _) (r32s _) h) H
    refine Gd.c e1 ?_
    refine Gd.i g1 ?_
    refine Gd.i g2 ?_
    refine Gd.i g3 ?_
    refine Gd.i g4 ?_
    refine Gd.i g5 ?_
    refine Gd.c e2 ?_
    first | exact fin s2 H2 | exact Gd.q (fin s2 H2) | exact Gd.q6 (fin s2 H2)
  refine Gd.e q27 ?_
  by_cases q28 : q = 28
  · refine Gd.i q28 ?_
    refine Gd.i g1 ?_
    refine Gd.i g2 ?_
    refine Gd.i g3 ?_
    refine Gd.i g4 ?_
    refine Gd.i g5 ?_
    obtain ⟨s1, s2, v, e1, e2, H2⟩ := step2 (A := fun c => d_x7_lay N c ((xs (Int.toNat (w32 (x3 + 1)))).toInt) ((xs (Int.toNat (w32 (x3 + 2)))).toInt) ((xs (Int.toNat (w32 (x3 + 3)))).toInt) ((xs (Int.toNat (w32 (x3 + 4)))).toInt) ((xs (Int.toNat (w32 (x3 + 5)))).toInt)) (B := fun r => d_x8_lay N r ((xs (Int.toNat (w32 (x3 + 1)))).toInt) ((xs (Int.toNat (w32 (x3 + 2)))).toInt) ((xs (Int.toNat (w32 (x3 + 3)))).toInt) ((xs (Int.toNat (w32 (x3 + 4)))).toInt) ((xs (Int.toNat (w32 (x3 + 5)))).toInt)) (fun c r h => r_lay (by omega) (r32s _) (r32s _) (r32s _) (r32s _) (r32s _) h) H
    refine Gd.c e1 ?_
    refine Gd.i g1 ?_
    refine Gd.i g2 ?_
    refine Gd.i g3 ?_
    refine Gd.i g4 ?_
    refine Gd.i g5 ?_
    refine Gd.c e2 ?_
    first | exact fin s2 H2 | exact Gd.q (fin s2 H2) | exact Gd.q6 (fin s2 H2)
  refine Gd.e q28 ?_
  exact fin s H
theorem law_end {N L m : Nat} {xs : Nat → Int32} {s : St} {x3 : Int} (hL : L ≤ 3072) (h0 : 0 ≤ x3) (h4 : x3 ≤ 4000) (h : (L : Int) < x3 + 6) (hm : 0 < m) : Gd (d_law_18L N (L, xs) m s x3) := by
  obtain ⟨m, rfl⟩ : ∃ m', m = m' + 1 := ⟨m - 1, by omega⟩
  show Gd (d_law_18 N (L, xs) (d_law_18L N (L, xs) m) s x3)
  unfold d_law_18
  refine Gd.i ?_ ⟨_, rfl, rfl⟩
  show w32 ((L : Int) - 6) < w32 x3
  rw [w32i (x := x3) (by omega) (by omega), w32i (x := (L : Int) - 6) (by omega) (by omega)]
  omega
theorem law_all {N L : Nat} {xs : Nat → Int32} (hN : 20000 ≤ N) (ht : TextR N) (hL : L ≤ 3072) : ∀ (k m : Nat) (s : St) (x3 : Int), 0 ≤ x3 → x3 ≤ 4000 → (L : Int) - x3 < k → k < m → RG s s → Gd (d_law_18L N (L, xs) m s x3) := by
  intro k
  induction k with
  | zero =>
    intro m s x3 h0 h4 hk hm H
    exact law_end hL h0 h4 (by omega) (by omega)
  | succ k ih =>
    intro m s x3 h0 h4 hk hm H
    by_cases hx : x3 + 6 ≤ L
    · obtain ⟨m, rfl⟩ : ∃ m', m = m' + 1 := ⟨m - 1, by omega⟩
      show Gd (d_law_18 N (L, xs) (d_law_18L N (L, xs) m) s x3)
      exact law_step hN ht hL ⟨h0, hx⟩ H (fun s' h => ih m s' (x3 + 6) (by omega) (by omega) (by omega) (by omega) h)
    · exact law_end hL h0 h4 (by omega) (by omega)
end
section
/-- the whole, out of text's relation -/
theorem start_of (ht : TextR 20000) {p : Program} {e : Env} {s : State} {m : MethodId} {below : List Frame} {meth : Method} {c : Code} (l : Launch) {b L : Nat} {xs : Nat → Int32} (hL : L ≤ 3072) (C0 : lw_At p s m meth c b L xs) : W p l e room_1 s m #[Value.ref b] below meth c s.heap [] 0 0 (lw_Z below #[Value.ref b] s) (entryFrame m ([Value.ref b] : List Value).toArray 4) := by
  obtain ⟨R, h1, h2⟩ := law_all (N := 20000) (L := L) (xs := xs) (by decide) ht hL 3073 4000 s0 0 (by decide) (by decide) (by omega) (by decide) s0_rg
  exact whole_of l C0 ⟨20000, 4000, R, h1, h2⟩
end
