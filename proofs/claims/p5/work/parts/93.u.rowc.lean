/-- a word that names a kind, on both sides -/
theorem RD.word {N : Nat} {c r : St} {b : Nat → Int} {z n j : Nat} (H : RD c r b z n j) (G : gd c r b z j) (h1 : r 77 21 = 1) : c 13 j = 1 ∧ 0 ≤ c 14 j ∧ c 14 j ≤ 13 ∧ d_x8_kindOf N r = some (r, c 14 j) ∧ ∃ a : Nat, a < z ∧ c 12 j = a ∧ r 77 22 = a ∧ c 11 a = b a ∧ 97 ≤ b a ∧ b a ≤ 122 ∧ (c 14 j = 0 → b a < 105) := by
  have S := H.sort G
  have c13 : c 13 j = 1 ∧ c 14 j ≠ -1 := S.2.2.2.2.2.2.2.2.2.2.1.mp h1
  have jn : j < n := S.2.2.2.2.2.2.2.2.2.2.2.2.2.2.2.2 (by omega)
  obtain ⟨⟨t1, t2, t3, t4, t5, t6, t7⟩, M, h6, hj⟩ := H
  have t := t1 j jn
  have k := G.2.2.2.2 t.1
  have te' := te_le (b := b) t.1
  have es : srt b (bgf b z j) (te b z (bgf b z j)) = 1 := by rw [← t.2.2.1]; exact c13.1
  have so1 : so (b (bgf b z j)) = 1 := by
    have e := es
    unfold srt at e
    split at e
    · exact absurd e (by decide)
    · exact e
  have l := so_1.mp so1
  have e14 : c 14 j = kd b (bgf b z j) (te b z (bgf b z j) - bgf b z j) := by
    rw [t.2.2.2]
    unfold mng
    rw [if_pos es]
  have kk : (-1 ≤ kd b (bgf b z j) (te b z (bgf b z j) - bgf b z j) ∧ kd b (bgf b z j) (te b z (bgf b z j) - bgf b z j) ≤ 13) ∧ (kd b (bgf b z j) (te b z (bgf b z j) - bgf b z j) = 0 → b (bgf b z j) < 105) := by
    unfold kd
    have f := fk_r (b := b) (a := bgf b z j) (n := te b z (bgf b z j) - bgf b z j) 13 1
    split
    · split <;> omega
    · omega
  have kof := m_kof (N := N) M G.2.2.1 (k.2.1 (by omega)) te' l
  rw [← e14] at kof kk
  exact ⟨c13.1, by omega, by omega, kof, bgf b z j, t.1, t.2.1, G.2.2.1, t7 _ t.1, l.1, l.2, kk.2⟩
/-- the model behind the word -/
def MTL (N : Nat) (g : St → Option Rs) (s : St) (x k : Int) : Option Rs := (if (w32 k) = 3 then d_x8_row_122 N g s x k x else (if (w32 k) = 6 then d_x8_row_122 N g s x k x else (if (w32 k) = 10 then d_x8_row_122 N g s x k x else (if (w32 k) = 4 then d_x8_row_140 N g s x k x else (if (w32 k) = 5 then d_x8_row_140 N g s x k x else d_x8_row_149 N g s x k 0 x)))))
theorem mtl_n {N x : Nat} {g : St → Option Rs} {s : St} {k : Int} (hk : 0 ≤ k ∧ k ≤ 13) (h : ¬ (k = 3 ∨ k = 6 ∨ k = 10 ∨ k = 4 ∨ k = 5)) : MTL N g s (x : Int) k = d_x8_row_149 N g s (x : Int) k 0 (x : Int) := by
  unfold MTL
  rw [w32i (x := k) (by omega) (by omega), if_neg (show ¬ k = 3 by omega), if_neg (show ¬ k = 6 by omega), if_neg (show ¬ k = 10 by omega), if_neg (show ¬ k = 4 by omega), if_neg (show ¬ k = 5 by omega)]
theorem mtl_o {N x : Nat} {g : St → Option Rs} {s : St} {k : Int} (h : k = 3 ∨ k = 6 ∨ k = 10) : MTL N g s (x : Int) k = (bI (d_x8_op N s 0) fun s v => d_x8_row_149 N g s (x : Int) k v (x : Int)) := by
  unfold MTL d_x8_row_122
  rw [w32i (x := k) (by omega) (by omega)]
  rcases h with h | h | h
  · rw [if_pos h]
  · rw [if_neg (show ¬ k = 3 by omega), if_pos h]
  · rw [if_neg (show ¬ k = 3 by omega), if_neg (show ¬ k = 6 by omega), if_pos h]
theorem mtl_t {N x : Nat} {g : St → Option Rs} {s : St} {k : Int} (h : k = 4 ∨ k = 5) : MTL N g s (x : Int) k = (bI (d_x8_op N s 1) fun s v => d_x8_row_149 N g s (x : Int) k v (x : Int)) := by
  unfold MTL d_x8_row_140
  rw [w32i (x := k) (by omega) (by omega), if_neg (show ¬ k = 3 by omega), if_neg (show ¬ k = 6 by omega), if_neg (show ¬ k = 10 by omega)]
  rcases h with h | h
  · rw [if_pos h]
  · rw [if_neg (show ¬ k = 4 by omega), if_pos h]
theorem w32x {x : Nat} (hx : x ≤ 200) : w32 (x : Int) = x := w32i (by omega) (by omega)
theorem w32k {k : Int} (hk : 0 ≤ k ∧ k ≤ 13) : w32 k = k := w32i (by omega) (by omega)
theorem p_all {N x : Nat} (hN : 500 ≤ N) (hx : x < 24) {g : St → Option Rs} {c r : St} {b : Nat → Int} {z n j : Nat} {k v : Int} (hk : 0 ≤ k ∧ k ≤ 13) (hv : 0 ≤ v ∧ v ≤ 7) (hv0 : k ≠ 0 → v = 0) (H : RD c r b z n j) (G : gd c r b z j) (I : INI c r x k v) : ∃ c' r' e, (∀ s, d_x0_shape N s k = some (s, ((e : Nat) : Int))) ∧ e ≠ 1000 ∧ d_x2_readPart_97L N N c (x : Int) e 0 = some (c', 0) ∧ MTL N g r (x : Int) k = d_x8_row_292 N g r' (x : Int) k ∧ PQ x k b z n j c r c' r' := by
  rcases k14 hk with e | e | e | e | e | e | e | e | e | e | e | e | e | e <;> subst e
  · obtain ⟨c', r', h1, h2, h3⟩ := p_none (g := g) hN hx (by omega) hv H G I
    exact ⟨c', r', 2 * 14 + 1, fun s => rfl, by decide, h1, (mtl_n (by decide) (by decide)).trans h2, h3⟩
  · have e := hv0 (by decide)
    subst e
    obtain ⟨c', r', h1, h2, h3⟩ := p_ns (g := g) hN hx H G I
    exact ⟨c', r', 2 * 15 + 1, fun s => rfl, by decide, h1, (mtl_n (by decide) (by decide)).trans h2, h3⟩
  · have e := hv0 (by decide)
    subst e
    obtain ⟨c', r', h1, h2, h3⟩ := p_l (g := g) hN hx H G I
    exact ⟨c', r', 2 * 16 + 1, fun s => rfl, by decide, h1, (mtl_n (by decide) (by decide)).trans h2, h3⟩
  · have e := hv0 (by decide)
    subst e
    obtain ⟨c', r', h1, h2, h3⟩ := p_on (g := g) (t := 23) hN hx (Or.inl ⟨rfl, rfl⟩) H G I
    exact ⟨c', r', 2 * 17 + 1, fun s => rfl, by decide, h1, (mtl_o (by decide)).trans h2, h3⟩
  · have e := hv0 (by decide)
    subst e
    obtain ⟨c', r', h1, h2, h3⟩ := p_on (g := g) (t := 24) hN hx (Or.inr ⟨rfl, Or.inl rfl⟩) H G I
    exact ⟨c', r', 2 * 18 + 1, fun s => rfl, by decide, h1, (mtl_t (by decide)).trans h2, h3⟩
  · have e := hv0 (by decide)
    subst e
    obtain ⟨c', r', h1, h2, h3⟩ := p_on (g := g) (t := 24) hN hx (Or.inr ⟨rfl, Or.inr rfl⟩) H G I
    exact ⟨c', r', 2 * 18 + 1, fun s => rfl, by decide, h1, (mtl_t (by decide)).trans h2, h3⟩
  · have e := hv0 (by decide)
    subst e
    obtain ⟨c', r', h1, h2, h3⟩ := p_o (g := g) hN hx (Or.inl rfl) H G I
    exact ⟨c', r', 2 * 19 + 1, fun s => rfl, by decide, h1, (mtl_o (by decide)).trans h2, h3⟩
  · obtain ⟨c', r', h1, h2, h3⟩ := p_none (g := g) hN hx (by omega) hv H G I
    exact ⟨c', r', 2 * 14 + 1, fun s => rfl, by decide, h1, (mtl_n (by decide) (by decide)).trans h2, h3⟩
  · have e := hv0 (by decide)
    subst e
    obtain ⟨c', r', h1, h2, h3⟩ := p_d (g := g) hN hx (Or.inl rfl) H G I
    exact ⟨c', r', 2 * 20 + 1, fun s => rfl, by decide, h1, (mtl_n (by decide) (by decide)).trans h2, h3⟩
  · have e := hv0 (by decide)
    subst e
    obtain ⟨c', r', h1, h2, h3⟩ := p_d (g := g) hN hx (Or.inr rfl) H G I
    exact ⟨c', r', 2 * 20 + 1, fun s => rfl, by decide, h1, (mtl_n (by decide) (by decide)).trans h2, h3⟩
  · have e := hv0 (by decide)
    subst e
    obtain ⟨c', r', h1, h2, h3⟩ := p_o (g := g) hN hx (Or.inr rfl) H G I
    exact ⟨c', r', 2 * 19 + 1, fun s => rfl, by decide, h1, (mtl_o (by decide)).trans h2, h3⟩
  · obtain ⟨c', r', h1, h2, h3⟩ := p_none (g := g) hN hx (by omega) hv H G I
    exact ⟨c', r', 2 * 14 + 1, fun s => rfl, by decide, h1, (mtl_n (by decide) (by decide)).trans h2, h3⟩
  · have e := hv0 (by decide)
    subst e
    obtain ⟨c', r', h1, h2, h3⟩ := p_n (g := g) hN hx H G I
    exact ⟨c', r', 2 * 21 + 1, fun s => rfl, by decide, h1, (mtl_n (by decide) (by decide)).trans h2, h3⟩
  · have e := hv0 (by decide)
    subst e
    obtain ⟨c', r', h1, h2, h3⟩ := p_c (g := g) hN hx H G I
    exact ⟨c', r', 2 * 22 + 1, fun s => rfl, by decide, h1, (mtl_n (by decide) (by decide)).trans h2, h3⟩
theorem e_clr {N x : Nat} (hx : x < 24) {c : St} {k : Int} : d_x5_clearPart N 2 1 c (x : Int) k = some (up (up (up (up (up c 4 x k) 5 x 0) 6 x 0) 7 x 0) 9 x 0, 0) := by
  have g : 0 ≤ (x : Int) ∧ (x : Int) < ((1 * 24 : Nat) : Int) := by omega
  unfold d_x5_clearPart
  rw [w32i (x := (x : Int)) (by omega) (by omega), if_pos g, bd_eq, if_pos g, bd_eq, if_pos g, bd_eq, if_pos g, bd_eq, if_pos g, bd_eq, Int.toNat_natCast]
/-- both read a part whose word names a kind -/
theorem r_prt {N x : Nat} (hN : 500 ≤ N) (hx : x < 24) {g : St → Option Rs} {c r : St} {b : Nat → Int} {z n j : Nat} (H : RD c r b z n j) (G : gd c r b z j) (h26 : r 77 26 = x) (h1 : r 77 21 = 1) : ∃ c' r' k, d_x2_readPart N c (x : Int) = some (c', 0) ∧ d_x8_row N g r = d_x8_row_292 N g r' (x : Int) k ∧ (0 ≤ k ∧ k ≤ 13) ∧ ∃ j', j < j' ∧ RD c' r' b z n j' ∧ FCr x (x + 1) c c' ∧ FMr x (x + 1) r r' ∧ r' 77 26 = ((x + 1 : Nat) : Int) ∧ c' 4 x = k ∧ ((gd c' r' b z j' ∧ (j : Int) + tkc k (c' 9 x) ≤ (j' : Int) ∧ PK c' r' x) ∨ bad c' r') := by
  obtain ⟨c13, k0, k13, kof, a, az, c12, r22, c11, b97, b122, bk0⟩ := H.word (N := N) G h1
  obtain ⟨k, hk⟩ : ∃ k, c 14 j = k := ⟨_, rfl⟩
  have R := H.rng
  have hj := H.2.2.1
  have hz := H.2.1.2.1
  have MB0 := H.2.1
  rw [hk] at kof k0 k13 bk0
  have gx : 0 ≤ (x : Int) ∧ (x : Int) < ((24 : Nat) : Int) := by omega
  have head : ∃ cp rp v, (0 ≤ v ∧ v ≤ 7) ∧ (k ≠ 0 → v = 0) ∧ d_x2_readPart N c (x : Int) = d_x2_readPart_79 N cp (x : Int) k ∧ d_x8_row N g r = d_x8_row_95 N g rp (x : Int) k v (x : Int) ∧ (∀ i m, ¬ (4 ≤ i ∧ i ≤ 9 ∧ m = x) → cp i m = c i m) ∧ (∀ i m, ¬ (i = 77 ∧ m = 26) → ¬ (95 ≤ i ∧ i ≤ 100 ∧ m = x) → rp i m = r i m) ∧ rp 77 26 = (x : Int) + 1 ∧ (cp 4 x = k ∧ cp 5 x = 0 ∧ cp 6 x = v ∧ cp 7 x = 0 ∧ cp 9 x = 0 ∧ rp 95 x = k ∧ rp 100 x = 0) := by
    have A : d_x2_readPart N c (x : Int) = d_x2_readPart_26 N c (x : Int) k := by
      unfold d_x2_readPart
      rw [hj, w32x (x := j) (by omega), if_pos (show 0 ≤ (j : Int) ∧ (j : Int) < ((121 : Nat) : Int) by omega), Int.toNat_natCast, c13, if_pos w32_1, if_pos (show 0 ≤ (j : Int) ∧ (j : Int) < ((121 : Nat) : Int) by omega), hk]
    have B : d_x8_row N g r = (if (w32 k) = 0 then bI (d_x8_byteAt N (up (up (up (up r 77 26 ((x : Int) + 1)) 95 x k) 96 x 0) 100 x 0) (a : Int)) fun s34 v35 => d_x8_row_95 N g s34 (x : Int) k (w32 (v35 - 97)) (x : Int) else d_x8_row_95 N g (up (up (up (up r 77 26 ((x : Int) + 1)) 95 x k) 96 x 0) 100 x 0) (x : Int) k 0 (x : Int)) := by
      unfold d_x8_row
      rw [G.2.1, if_pos w32_0, h1, if_pos w32_1, h26, w32x (x := x) (by omega), if_neg (show ¬ (x : Int) = 24 by omega), bd_eq, kof, bI_some, bd_eq, h26, w32x (x := x) (by omega), if_pos gx, bd_eq, if_pos gx, bd_eq, if_pos gx, bd_eq, Int.toNat_natCast, up_ne (show (77 : Nat) ≠ 100 by decide), up_ne (show (77 : Nat) ≠ 96 by decide), up_ne (show (77 : Nat) ≠ 95 by decide), up_nj (show (22 : Nat) ≠ 26 by decide), r22]
    have C : ∀ s12, s12 = up (up (up (up (up c 4 x k) 5 x 0) 6 x 0) 7 x 0) 9 x 0 → d_x2_readPart_26 N c (x : Int) k = (if (w32 k) = 0 then (d_x2_readPart_79 N (up s12 6 x (b a - 97)) (x : Int) k) else d_x2_readPart_79 N s12 (x : Int) k) := by
      intro s12 hs
      have e6 : s12 1 6 = (j : Int) := by rw [hs, up_ne (by decide), up_ne (by decide), up_ne (by decide), up_ne (by decide), up_ne (by decide)]; exact hj
      have e12 : s12 12 j = (a : Int) := by rw [hs, up_ne (by decide), up_ne (by decide), up_ne (by decide), up_ne (by decide), up_ne (by decide)]; exact c12
      have e11 : s12 11 a = b a := by rw [hs, up_ne (by decide), up_ne (by decide), up_ne (by decide), up_ne (by decide), up_ne (by decide)]; exact c11
      unfold d_x2_readPart_26
      rw [w32k ⟨k0, k13⟩, if_neg (show ¬ k < 0 by omega), e_clr hx, bV_some, ← hs, if_neg (show ¬ k < 0 by omega), e6, w32x (x := j) (by omega), if_pos (show 0 ≤ (j : Int) ∧ (j : Int) < ((121 : Nat) : Int) by omega), Int.toNat_natCast, e12, w32x (x := a) (by omega), if_pos (show 0 ≤ (a : Int) ∧ (a : Int) < ((120 : Nat) : Int) by omega), w32x (x := x) (by omega), if_pos gx, bd_eq, Int.toNat_natCast, Int.toNat_natCast, e11]
    rw [A, B, C _ rfl, w32k ⟨k0, k13⟩]
    by_cases q : k = 0
    · rw [if_pos q, if_pos q, m_byte (b := b) (z := z) (MB0.cong (by rw [up_ne (by decide), up_ne (by decide), up_ne (by decide), up_nj (by decide)]) (fun m => by rw [up_ne (by decide), up_ne (by decide), up_ne (by decide), up_ne (by decide)])) (by omega), bI_some, if_pos az, w32i (x := b a - 97) (by omega) (by omega)]
      have := bk0 q
      refine ⟨_, _, b a - 97, by omega, fun y => absurd q y, rfl, rfl, fun i m h => ?_, fun i m h1 h2 => ?_, ?_, ?_, ?_, ?_, ?_, ?_, ?_, ?_⟩
      · rw [up_o (by omega), up_o (by omega), up_o (by omega), up_o (by omega), up_o (by omega), up_o (by omega)]
      · rw [up_o (by omega), up_o (by omega), up_o (by omega), up_o (by omega)]
      · rw [up_ne (by decide), up_ne (by decide), up_ne (by decide), up_same]
      · rw [up_ne (by decide), up_ne (by decide), up_ne (by decide), up_ne (by decide), up_ne (by decide), up_same]
      · rw [up_ne (by decide), up_ne (by decide), up_ne (by decide), up_ne (by decide), up_same]
      · rw [up_same]
      · rw [up_ne (by decide), up_ne (by decide), up_same]
      · rw [up_ne (by decide), up_same]
      · rw [up_ne (by decide), up_ne (by decide), up_same]
      · rw [up_same]
    · rw [if_neg q, if_neg q]
      refine ⟨_, _, 0, by omega, fun _ => rfl, rfl, rfl, fun i m h => ?_, fun i m h1 h2 => ?_, ?_, ?_, ?_, ?_, ?_, ?_, ?_, ?_⟩
      · rw [up_o (by omega), up_o (by omega), up_o (by omega), up_o (by omega), up_o (by omega)]
      · rw [up_o (by omega), up_o (by omega), up_o (by omega), up_o (by omega)]
      · rw [up_ne (by decide), up_ne (by decide), up_ne (by decide), up_same]
      · rw [up_ne (by decide), up_ne (by decide), up_ne (by decide), up_ne (by decide), up_same]
      · rw [up_ne (by decide), up_ne (by decide), up_ne (by decide), up_same]
      · rw [up_ne (by decide), up_ne (by decide), up_same]
      · rw [up_ne (by decide), up_same]
      · rw [up_same]
      · rw [up_ne (by decide), up_ne (by decide), up_same]
      · rw [up_same]
  obtain ⟨cp, rp, v, hv, hv0, A, B, fc, fm, e26, q4, q5, q6, q7, q9, m95, m100⟩ := head
  have Hp : RD cp (up rp 98 x v) b z n j := ⟨H.1.cong (fun i m _ _ => fc i m (by omega)), H.2.1.cong (by rw [up_ne (by decide)]; exact fm _ _ (by omega) (by omega)) (fun m => by rw [up_ne (by decide)]; exact fm _ _ (by omega) (by omega)), (fc 1 6 (by omega)).trans hj, H.2.2.2⟩
  have e77 : ∀ m, m ≠ 26 → up rp 98 x v 77 m = r 77 m := fun m hm => by
    rw [up_ne (by decide)]
    exact fm _ _ (by omega) (by omega)
  have Gp : gd cp (up rp 98 x v) b z j := by
    have g1 := G
    unfold gd TKM at *
    rw [fc 1 7 (by omega), e77 24 (by decide), e77 22 (by decide), e77 21 (by decide), e77 20 (by decide), e77 23 (by decide)]
    exact g1
  obtain ⟨r', w, e1, e2, e3, e4⟩ := Hp.adv hN Gp (by rw [e77 21 (by decide), h1]; decide) (by rw [e77 21 (by decide), h1]; decide)
  obtain ⟨c2, r2, e, s1, s2, s3, s4, j2, u1, u2, u3, u4, u5, u6, u7⟩ := p_all (g := g) hN hx ⟨k0, k13⟩ hv hv0 e2 e3 (show INI (up cp 1 6 ((j : Int) + 1)) r' x k v from ⟨by rw [up_ne (by decide)]; exact q4, by rw [up_ne (by decide)]; exact q5, by rw [up_ne (by decide)]; exact q6, by rw [up_ne (by decide)]; exact q7, by rw [up_ne (by decide)]; exact q9, by rw [e4 95 x (by omega), up_ne (by decide)]; exact m95, by rw [e4 98 x (by omega), up_same], by rw [e4 100 x (by omega), up_ne (by decide)]; exact m100⟩)
  refine ⟨c2, r2, k, ?_, ?_, ⟨k0, k13⟩, j2, by omega, u2, ?_, ?_, ?_, u6, ?_⟩
  · rw [A]
    unfold d_x2_readPart_79
    rw [bd_eq, fc 1 6 (by omega), hj, s1, bS_some, Int.toNat_natCast, if_neg s2, bd_eq, s3]
  · rw [B]
    unfold d_x8_row_95
    rw [w32x (x := x) (by omega), if_pos gx, bd_eq, Int.toNat_natCast, e1, bV_some]
    exact s4
  · exact FCr.trans (y := x + 1) (w := x) (fun i m p1 p2 p3 => by rw [up_o (by omega)]; exact fc i m (by omega)) u3 (Nat.le_refl _) (Nat.le_refl _) (by omega)
  · exact FMr.trans (y := x + 1) (w := x) (fun i m p1 p2 p3 => by rw [e4 i m (by omega), up_o (by omega)]; exact fm i m (by omega) (by omega)) u4 (Nat.le_refl _) (Nat.le_refl _) (by omega)
  · rw [u5, e4 77 26 (by omega), up_ne (by decide), e26]
    omega
  · rcases u7 with u7 | u7
    · exact Or.inl ⟨u7.1, by have := u7.2.1; omega, u7.2.2⟩
    · exact Or.inr u7
/-- no kind stands there: both miss -/
theorem r_nop {N x : Nat} (hx : x < 24) {g : St → Option Rs} {c r : St} {b : Nat → Int} {z n j : Nat} (H : RD c r b z n j) (G : gd c r b z j) (h1 : r 77 21 ≠ 1) : ∃ c' r' w, d_x2_readPart N c (x : Int) = some (c', 0) ∧ d_x8_row N g r = some (r', w) ∧ RD c' r' b z n j ∧ bad c' r' ∧ FCr x (x + 1) c c' ∧ FM r r' ∧ c' 4 x = 0 := by
  have S := H.sort G
  have R := H.rng
  have hj := H.2.2.1
  have np : ¬ (c 13 j = 1 ∧ c 14 j ≠ -1) := fun q => h1 (S.2.2.2.2.2.2.2.2.2.2.1.mpr q)
  have A : d_x2_readPart N c (x : Int) = d_x2_readPart_26 N c (x : Int) (-1) := by
    unfold d_x2_readPart
    rw [hj, w32x (x := j) (by omega), if_pos (show 0 ≤ (j : Int) ∧ (j : Int) < ((121 : Nat) : Int) by omega), Int.toNat_natCast, w32i (x := c 13 j) (by omega) (by omega), if_pos (show 0 ≤ (j : Int) ∧ (j : Int) < ((121 : Nat) : Int) by omega)]
    by_cases q : c 13 j = 1
    · rw [if_pos q, show c 14 j = -1 by omega]
    · rw [if_neg q]
  have H2 : RD (up (up (up (up (up c 4 x 0) 5 x 0) 6 x 0) 7 x 0) 9 x 0) r b z n j := ((((H.upc (by omega)).upc (by omega)).upc (by omega)).upc (by omega)).upc (by omega)
  have G2 : gd (up (up (up (up (up c 4 x 0) 5 x 0) 6 x 0) 7 x 0) 9 x 0) r b z j := ((((G.upc (by omega)).upc (by omega)).upc (by omega)).upc (by omega)).upc (by omega)
  obtain ⟨c', r', v, w, e1, e2, e3, e4, e5, e6⟩ := H2.miss (N := N) (Or.inl G2)
  refine ⟨c', r', 0, ?_, ?_, e3, e4, ?_, e6, ?_⟩
  · rw [A]
    unfold d_x2_readPart_26
    rw [if_pos (show w32 (-1) < 0 by decide), e_clr hx, bV_some, if_pos (show w32 (-1) < 0 by decide), e1, bV_some]
  · unfold d_x8_row d_x8_row_24
    rw [G.2.1, if_pos w32_0, w32i (x := r 77 21) (by omega) (by omega), if_neg h1, e2, bV_some]
  · exact FCr.trans (y := x + 1) (w := x) (((((FCr.refl.up (by omega)).up (by omega)).up (by omega)).up (by omega)).up (by omega)) e5.fr (Nat.le_refl _) (Nat.le_refl _) (by omega)
  · rw [e5 4 x (by omega), up_ne (by decide), up_ne (by decide), up_ne (by decide), up_ne (by decide), up_same]
