theorem e_97_0 {N e : Nat} (hN : 100 ≤ N) {c : St} {x : Int} (t : Txt N e []) : d_x2_readPart_97L N N c x e 0 = some (c, 0) := by
  obtain ⟨t1, t2, t3', t4⟩ := t
  have t3 : ∀ s, d_j0_length_8abf5 N s e = some (s, (0 : Int)) := t3'
  obtain ⟨m, hm⟩ : ∃ m, N = m + 1 := ⟨N - 1, by omega⟩
  have u : d_x2_readPart_97L N N c x e 0 = d_x2_readPart_97 N (d_x2_readPart_97L N m) c x e 0 := by
    conv => lhs; arg 2; rw [hm]
    rfl
  rw [u]
  unfold d_x2_readPart_97
  rw [if_neg t1, if_pos t2, t3, bI_some, if_neg (by decide)]
theorem e_97_1 {N e : Nat} (hN : 100 ≤ N) {c c1 : St} {x u v : Int} (t : Txt N e [u]) (h7 : c 1 7 = -1) (h : d_x2_readField N c x u = some (c1, v)) : d_x2_readPart_97L N N c x e 0 = some (c1, 0) := by
  obtain ⟨t1, t2, t3', t4⟩ := t
  have t3 : ∀ s, d_j0_length_8abf5 N s e = some (s, (1 : Int)) := t3'
  obtain ⟨m, hm⟩ : ∃ m, N = m + 2 := ⟨N - 2, by omega⟩
  have u0 : d_x2_readPart_97L N N c x e 0 = d_x2_readPart_97 N (d_x2_readPart_97L N (m + 1)) c x e 0 := by
    conv => lhs; arg 2; rw [hm]
    rfl
  have u1 : d_x2_readPart_97L N (m + 1) c1 x e (0 + 1) = some (c1, 0) := by
    show d_x2_readPart_97 N (d_x2_readPart_97L N m) c1 x e (0 + 1) = _
    unfold d_x2_readPart_97
    rw [if_neg t1, if_pos t2, t3, bI_some, if_neg (by decide)]
  have t40 : d_j0_charAt_5068e N c e 0 = some (c, u) := t4 c 0 (by show 0 < 1; decide)
  rw [u0]
  unfold d_x2_readPart_97
  rw [if_neg t1, if_pos t2, t3, bI_some, if_pos (by decide), h7, if_pos (by decide), if_neg t1, if_pos t2, t40, bI_some, h, bV_some, bd_eq, u1]
/-- two fields: the second only where the first was good -/
theorem e_97_2 {N e : Nat} (hN : 100 ≤ N) {c c1 : St} {x u y v : Int} (t : Txt N e [u, y]) (h7 : c 1 7 = -1) (h : d_x2_readField N c x u = some (c1, v)) : (∀ c2 w, c1 1 7 = -1 → d_x2_readField N c1 x y = some (c2, w) → d_x2_readPart_97L N N c x e 0 = some (c2, 0)) ∧ (0 ≤ c1 1 7 → c1 1 7 ≤ 120 → d_x2_readPart_97L N N c x e 0 = some (c1, 0)) := by
  obtain ⟨t1, t2, t3', t4⟩ := t
  have t3 : ∀ s, d_j0_length_8abf5 N s e = some (s, (2 : Int)) := t3'
  obtain ⟨m, hm⟩ : ∃ m, N = m + 3 := ⟨N - 3, by omega⟩
  have u0 : d_x2_readPart_97L N N c x e 0 = d_x2_readPart_97 N (d_x2_readPart_97L N (m + 2)) c x e 0 := by
    conv => lhs; arg 2; rw [hm]
    rfl
  have t40 : d_j0_charAt_5068e N c e 0 = some (c, u) := t4 c 0 (by show 0 < 2; decide)
  have t41 : d_j0_charAt_5068e N c1 e (0 + 1) = some (c1, y) := t4 c1 1 (by show 1 < 2; decide)
  have first : d_x2_readPart_97L N N c x e 0 = d_x2_readPart_97L N (m + 2) c1 x e (0 + 1) := by
    rw [u0]
    unfold d_x2_readPart_97
    rw [if_neg t1, if_pos t2, t3, bI_some, if_pos (by decide), h7, if_pos (by decide), if_neg t1, if_pos t2, t40, bI_some, h, bV_some, bd_eq]
  rw [first]
  refine ⟨fun c2 w g7 g => ?_, fun g0 g1 => ?_⟩
  · have u2 : d_x2_readPart_97L N (m + 1) c2 x e (0 + 1 + 1) = some (c2, 0) := by
      show d_x2_readPart_97 N (d_x2_readPart_97L N m) c2 x e (0 + 1 + 1) = _
      unfold d_x2_readPart_97
      rw [if_neg t1, if_pos t2, t3, bI_some, if_neg (by decide)]
    show d_x2_readPart_97 N (d_x2_readPart_97L N (m + 1)) c1 x e (0 + 1) = _
    unfold d_x2_readPart_97
    rw [if_neg t1, if_pos t2, t3, bI_some, if_pos (by decide), g7, if_pos (by decide), if_neg t1, if_pos t2, t41, bI_some, g, bV_some, bd_eq, u2]
  · show d_x2_readPart_97 N (d_x2_readPart_97L N (m + 1)) c1 x e (0 + 1) = _
    unfold d_x2_readPart_97
    rw [if_neg t1, if_pos t2, t3, bI_some, if_pos (by decide), w32i (x := c1 1 7) (by omega) (by omega), if_neg (by omega)]
/-- the class's fields -/
theorem e_fld {N x : Nat} (hx : x < 24) {c c1 : St} {v : Int} : (d_x2_readNum N c = some (c1, v) → d_x2_readField N c (x : Int) 110 = some (up c1 6 x v, 0)) ∧ (d_x2_readNum N c = some (c1, v) → d_x2_readField N c (x : Int) 115 = some (up c1 7 x v, 0)) ∧ (d_x2_readNumber N c 0 9999 = some (c1, v) → d_x2_readField N c (x : Int) 100 = some (up c1 6 x v, 0)) ∧ (d_x2_readNumber N c 1 9 = some (c1, v) → d_x2_readField N c (x : Int) 99 = some (up c1 6 x v, 0)) ∧ (d_x2_readSign N c (2 * 23 + 1) = some (c1, v) → d_x2_readField N c (x : Int) 111 = some (up c1 5 x v, 0)) ∧ (d_x2_readSign N c (2 * 24 + 1) = some (c1, v) → d_x2_readField N c (x : Int) 116 = some (up c1 5 x v, 0)) ∧ (d_x2_readNums N c (x : Int) = some (c1, v) → d_x2_readField N c (x : Int) 108 = some (c1, 0)) := by
  have gx : 0 ≤ (x : Int) ∧ (x : Int) < ((24 : Nat) : Int) := by omega
  have wx : w32 (x : Int) = x := w32i (by omega) (by omega)
  refine ⟨fun h => ?_, fun h => ?_, fun h => ?_, fun h => ?_, fun h => ?_, fun h => ?_, fun h => ?_⟩
  · unfold d_x2_readField
    rw [if_neg (by decide), if_neg (by decide), if_pos (by decide), h, bI_some, wx, if_pos gx, bd_eq, Int.toNat_natCast]
  · unfold d_x2_readField
    rw [if_neg (by decide), if_neg (by decide), if_neg (by decide), if_neg (by decide), if_pos (by decide), h, bI_some, wx, if_pos gx, bd_eq, Int.toNat_natCast]
  · unfold d_x2_readField
    rw [if_neg (by decide), if_pos (by decide), h, bI_some, wx, if_pos gx, bd_eq, Int.toNat_natCast]
  · unfold d_x2_readField
    rw [if_pos (by decide), h, bI_some, wx, if_pos gx, bd_eq, Int.toNat_natCast]
  · unfold d_x2_readField
    rw [if_neg (by decide), if_neg (by decide), if_neg (by decide), if_pos (by decide), h, bI_some, wx, if_pos gx, bd_eq, Int.toNat_natCast]
  · unfold d_x2_readField
    rw [if_neg (by decide), if_neg (by decide), if_neg (by decide), if_neg (by decide), if_neg (by decide), if_pos (by decide), h, bI_some, wx, if_pos gx, bd_eq, Int.toNat_natCast]
  · unfold d_x2_readField
    rw [if_neg (by decide), if_neg (by decide), if_neg (by decide), if_neg (by decide), if_neg (by decide), if_neg (by decide), if_neg (by decide), if_neg (by decide), if_neg (by decide), if_neg (by decide), if_neg (by decide), if_neg (by decide), if_neg (by decide), if_pos (by decide), h, bV_some]
