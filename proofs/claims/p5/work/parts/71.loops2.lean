/-- differ -/
theorem L_diff {t N : Nat} {T : St} (h2 : T2 t) (hN : 100 ≤ N) {s o : Nat} (hs : s < 8) (hne : T 18 s ≠ 0) (ho : o < 8) (hno : T 18 o ≠ 0) {n : Int} (hn : 0 ≤ n ∧ n ≤ 64) (c0 r0 : St) : ∀ (k m : Nat) (c r : St) (j : Int), (k : Int) + j = n → 0 ≤ j → k + 2 < m → TI t T c r → Mo t 192 c0 c → Fm r0 r →
    ∃ c' r' v, d_x4_firstUnlike_3L N t m c (s : Int) (o : Int) n j = some (c', v) ∧ d_x8_differ_67L N m r (s : Int) (o : Int) n (-1) 1 j = d_x8_differ_192 N r' v ∧ TI t T c' r' ∧ Mo t 192 c0 c' ∧ Fm r0 r' := by
  intro k
  induction k with
  | zero =>
    intro m c r j hk hj hm H M F
    obtain ⟨m, rfl⟩ : ∃ m', m = m' + 1 := ⟨m - 1, by omega⟩
    refine ⟨c, r, -1, ?_, ?_, H, M, F⟩
    · show d_x4_firstUnlike_3 N t (d_x4_firstUnlike_3L N t m) c _ _ n j = _
      unfold d_x4_firstUnlike_3
      rw [w32i (x := j) (by omega) (by omega), w32i (x := n) (by omega) (by omega), if_neg (by omega)]
    · show d_x8_differ_67 N (d_x8_differ_67L N m) r _ _ n (-1) 1 j = _
      unfold d_x8_differ_67
      rw [w32i (x := j) (by omega) (by omega), w32i (x := n) (by omega) (by omega), if_neg (by omega)]
  | succ k ih =>
    intro m c r j hk hj hm H M F
    obtain ⟨m, rfl⟩ : ∃ m', m = m' + 1 := ⟨m - 1, by omega⟩
    obtain ⟨c1, r1, v1, e1, e2, H1, M1, F1, A1, V1⟩ := L_out h2 hN H hs hne (y := j) (by omega)
    have g1 := A1.rng
    have M01 := M.trans M1
    have F01 := F.trans F1
    have stop : ∀ (r1 : St) (z : Int), d_x8_differ_67L N m r1 (s : Int) (o : Int) n z 0 (j + 1) = d_x8_differ_192 N r1 z := by
      intro r1 z
      obtain ⟨m, rfl⟩ : ∃ m', m = m' + 1 := ⟨m - 1, by omega⟩
      show d_x8_differ_67 N (d_x8_differ_67L N m) r1 _ _ n z 0 (j + 1) = _
      unfold d_x8_differ_67
      rw [w32_0, if_pos (show (0 : Int) = 0 from rfl)]
      split <;> rfl
    have ec : d_x4_firstUnlike_3L N t (m + 1) c (s : Int) (o : Int) n j = (if v1 = -6 then some (c1, -6) else bI (d_x4_outcome N t c1 (o : Int) j) fun s5 v6 => (if (w32 v6) = (-6) then some (s5, (-6)) else (if v1 = (w32 v6) then (if v1 = 1 then (if (w64 (c1 50 4)) = (w64 (s5 50 4)) then d_x4_firstUnlike_3L N t m s5 (s : Int) (o : Int) n (j + 1) else some (s5, j)) else some (s5, -1)) else some (s5, j)))) := by
      show d_x4_firstUnlike_3 N t (d_x4_firstUnlike_3L N t m) c _ _ n j = _
      unfold d_x4_firstUnlike_3 d_x4_firstUnlike_79
      rw [w32i (x := j) (by omega) (by omega), w32i (x := n) (by omega) (by omega), if_pos (by omega), e1, bI_some, w32i (x := v1) (by omega) (by omega)]
      by_cases h1 : v1 = 1
      · simp only [if_pos h1]
        rfl
      · simp only [if_neg h1]
        rfl
    have er : d_x8_differ_67L N (m + 1) r (s : Int) (o : Int) n (-1) 1 j = (if v1 = -6 then d_x8_differ_112 N (d_x8_differ_67L N m) r1 (s : Int) (o : Int) n j v1 (r1 77 38) (-6) else bI (d_x8_outcome N r1 (o : Int) j) fun s6 v7 => d_x8_differ_112 N (d_x8_differ_67L N m) s6 (s : Int) (o : Int) n j v1 (r1 77 38) v7) := by
      show d_x8_differ_67 N (d_x8_differ_67L N m) r _ _ n (-1) 1 j = _
      unfold d_x8_differ_67
      rw [w32i (x := j) (by omega) (by omega), w32i (x := n) (by omega) (by omega), if_pos (by omega), w32_1, if_neg (show ¬ (1 : Int) = 0 by decide), e2, bI_some, w32i (x := v1) (by omega) (by omega)]
      rfl
    have e112 : ∀ (r2 : St) (v2 : Int), -100 ≤ v2 ∧ v2 ≤ 100 → ¬ (v1 = 1 ∧ v2 = 1 ∧ w64 (r1 77 38) = w64 (r2 77 38)) → d_x8_differ_112 N (d_x8_differ_67L N m) r2 (s : Int) (o : Int) n j v1 (r1 77 38) v2 = d_x8_differ_192 N r2 (if v2 = -6 then -6 else if v1 = v2 ∧ v1 ≠ 1 then -1 else j) := by
      intro r2 v2 hv2 hno
      have e : d_x8_differ_112 N (d_x8_differ_67L N m) r2 (s : Int) (o : Int) n j v1 (r1 77 38) v2 = d_x8_differ_140 N (d_x8_differ_67L N m) r2 (s : Int) (o : Int) n j v1 (r1 77 38) v2 := by
        unfold d_x8_differ_112
        rw [w32i (x := v1) (by omega) (by omega), w32i (x := v2) (by omega) (by omega)]
        by_cases z1 : v1 = 1
        · by_cases z2 : v2 = 1
          · rw [if_pos z1, if_pos z2, if_neg (fun z => hno ⟨z1, z2, z⟩)]
          · rw [if_pos z1, if_neg z2]
        · rw [if_neg z1]
      rw [e]
      unfold d_x8_differ_140 d_x8_differ_141 d_x8_differ_183 d_x8_differ_178 d_x8_differ_184
      rw [w32i (x := v1) (by omega) (by omega), w32i (x := v2) (by omega) (by omega)]
      simp only [bd_eq, stop]
      by_cases z6 : v2 = -6
      · rw [if_pos z6, if_pos z6]
      · rw [if_neg z6, if_neg z6]
        by_cases z1 : v1 = v2
        · rw [if_pos z1]
          by_cases z2 : v1 = 1
          · rw [if_pos z2, if_neg (fun z => hno ⟨z2, by omega, z⟩), if_neg (by omega)]
          · rw [if_neg z2, if_pos ⟨z1, z2⟩]
        · rw [if_neg z1, if_neg (fun z => z1 z.1)]
    rw [ec, er]
    by_cases h6 : v1 = -6
    · rw [if_pos h6, if_pos h6, e112 r1 (-6) (by omega) (by omega), if_pos rfl]
      exact ⟨c1, r1, -6, rfl, rfl, H1, M01, F01⟩
    · rw [if_neg h6, if_neg h6]
      obtain ⟨c2, r2, v2, e3, e4, H2, M2, F2, A2, V2⟩ := L_out h2 hN H1 ho hno (y := j) (by omega)
      have g2 := A2.rng
      have M02 := M01.trans M2
      have F02 := F01.trans F2
      rw [e3, e4, bI_some, bI_some, w32i (x := v2) (by omega) (by omega)]
      by_cases heq : v1 = 1 ∧ v2 = 1 ∧ w64 (r1 77 38) = w64 (r2 77 38)
      · obtain ⟨z1, z2, z3⟩ := heq
        rw [V1 z1, V2 z2, if_neg (show ¬ v2 = -6 by omega), if_pos (show v1 = v2 by omega), if_pos z1, if_pos z3]
        have : d_x8_differ_112 N (d_x8_differ_67L N m) r2 (s : Int) (o : Int) n j v1 (r1 77 38) v2 = d_x8_differ_67L N m r2 (s : Int) (o : Int) n (-1) 1 (j + 1) := by
          unfold d_x8_differ_112 d_x8_differ_141 d_x8_differ_183 d_x8_differ_184
          rw [w32i (x := v1) (by omega) (by omega), w32i (x := v2) (by omega) (by omega), if_pos z1, if_pos z2, if_pos z3, if_neg (show ¬ v2 = -6 by omega), if_pos (show v1 = v2 by omega), if_pos z1, if_pos z3]
          rfl
        rw [this]
        exact ih m c2 r2 (j + 1) (by omega) (by omega) (by omega) H2 M02 F02
      · rw [e112 r2 v2 g2 heq]
        by_cases z6 : v2 = -6
        · rw [if_pos z6, if_pos z6]
          exact ⟨c2, r2, -6, rfl, rfl, H2, M02, F02⟩
        · rw [if_neg z6, if_neg z6]
          by_cases z1 : v1 = v2
          · rw [if_pos z1]
            by_cases z2 : v1 = 1
            · rw [if_pos z2, V1 z2, V2 (by omega), if_neg (fun z => heq ⟨z2, by omega, z⟩), if_neg (by omega)]
              exact ⟨c2, r2, j, rfl, rfl, H2, M02, F02⟩
            · rw [if_neg z2, if_pos ⟨z1, z2⟩]
              exact ⟨c2, r2, -1, rfl, rfl, H2, M02, F02⟩
          · rw [if_neg z1, if_neg (fun z => z1 z.1)]
            exact ⟨c2, r2, j, rfl, rfl, H2, M02, F02⟩
theorem TI.cong {t : Nat} {T c r c' r' : St} (h2 : T2 t) (H : TI t T c r) (e : ∀ a k, 18 ≤ a → a ≤ 50 → c' a k = c a k) (f : ∀ a k, 78 ≤ a → a ≤ 93 → r' a k = r a k) (f6 : r' 77 36 = r 77 36) (f7 : r' 77 37 = r 77 37) : TI t T c' r' := by
  have hb : 26 ≤ t ∧ t ≤ 38 := by unfold T2 at h2; omega
  refine ⟨⟨H.W, fun a k h1 h2 => (e a k (by omega) (by omega)).trans (H.ct a k h1 h2), fun a k h1 h2 => (f a k (by omega) (by omega)).trans (H.rt a k h1 h2)⟩, ?_, H.T.cong (fun a k _ _ => e a k (by omega) (by omega)), H.S.cong (fun a k _ _ => e a k (by omega) (by omega)) (fun a k _ _ => f a k (by omega) (by omega))⟩
  have h := H.R
  unfold TR at *
  rw [e 50 1 (by omega) (by omega), e 50 2 (by omega) (by omega), e 50 3 (by omega) (by omega), f6, f7]
  exact h
/-- film: the numbers are gathered -/
theorem L_film {N : Nat} {T : St} (hN : 100 ≤ N) {s : Nat} (hs : s < 8) (hne : T 18 s ≠ 0) {n h : Int} (hn : 0 ≤ n ∧ n ≤ 16) (c0 r0 : St) : ∀ (k m : Nat) (c r : St) (j : Nat), (k : Int) + j = n → k + 2 < m → TI 26 T c r → ID 26 c → (∀ a k, ¬ (a = 50 ∨ a = 55 ∨ (26 ≤ a ∧ a ≤ 37)) → c a k = c0 a k) → (∀ a k, ¬ (a = 77 ∨ a = 110 ∨ (86 ≤ a ∧ a ≤ 93)) → r a k = r0 a k) → (∀ k, k ≠ 36 → k ≠ 37 → k ≠ 38 → r 77 k = r0 77 k) → (∀ i : Nat, i < j → r 110 i = c 55 i) →
    ∃ c' r' v w z, d_x4_gather_3L N 26 m c (s : Int) n (j : Int) = some (c', v) ∧ d_x8_film_58L N m r h (s : Int) n (j : Int) 1 (j : Int) = d_x8_film_112 N r' h z w ∧ TI 26 T c' r' ∧ ID 26 c' ∧ (∀ a k, ¬ (a = 50 ∨ a = 55 ∨ (26 ≤ a ∧ a ≤ 37)) → c' a k = c0 a k) ∧ (∀ a k, ¬ (a = 77 ∨ a = 110 ∨ (86 ≤ a ∧ a ≤ 93)) → r' a k = r0 a k) ∧ (∀ k, k ≠ 36 → k ≠ 37 → k ≠ 38 → r' 77 k = r0 77 k) ∧ (-100 ≤ w ∧ w ≤ 100) ∧ ((w = -6 ∧ v = -6) ∨ (w ≠ -6 ∧ v = z ∧ 0 ≤ v ∧ v ≤ n ∧ ∀ i : Nat, (i : Int) < v → r' 110 i = c' 55 i)) := by
  intro k
  induction k with
  | zero =>
    intro m c r j hk hm H I ec er er7 hf
    obtain ⟨m, rfl⟩ : ∃ m', m = m' + 1 := ⟨m - 1, by omega⟩
    refine ⟨c, r, n, 1, j, ?_, ?_, H, I, ec, er, er7, by omega, Or.inr ⟨by omega, by omega, by omega, by omega, fun i hi => hf i (by omega)⟩⟩
    · show d_x4_gather_3 N 26 (d_x4_gather_3L N 26 m) c _ n j = _
      unfold d_x4_gather_3
      rw [w32i (x := (j : Int)) (by omega) (by omega), w32i (x := n) (by omega) (by omega), if_neg (by omega)]
    · show d_x8_film_58 N (d_x8_film_58L N m) r h _ n j 1 j = _
      unfold d_x8_film_58
      rw [w32i (x := (j : Int)) (by omega) (by omega), w32i (x := n) (by omega) (by omega), if_neg (by omega)]
  | succ k ih =>
    intro m c r j hk hm H I ec er er7 hf
    obtain ⟨m, rfl⟩ : ∃ m', m = m' + 1 := ⟨m - 1, by omega⟩
    obtain ⟨c1, r1, v1, e1, e2, H1, M1, F1, A1, V1⟩ := L_out (Or.inl rfl) hN H hs hne (y := j) (by omega)
    have g1 := A1.rng
    have I1 := I.mo M1
    have ec1 : ∀ a k, ¬ (a = 50 ∨ a = 55 ∨ (26 ≤ a ∧ a ≤ 37)) → c1 a k = c0 a k := fun a k z => (M1.1 a k (by omega)).trans (ec a k z)
    have er1 : ∀ a k, ¬ (a = 77 ∨ a = 110 ∨ (86 ≤ a ∧ a ≤ 93)) → r1 a k = r0 a k := fun a k z => (F1.1 a k (by omega)).trans (er a k z)
    have er71 : ∀ k, k ≠ 36 → k ≠ 37 → k ≠ 38 → r1 77 k = r0 77 k := fun k z y w => (F1.2 k z w).trans (er7 k z y w)
    have hf1 : ∀ i : Nat, i < j → r1 110 i = c1 55 i := fun i hi => by rw [F1.1 110 i (by omega), M1.1 55 i (by omega)]; exact hf i hi
    have EC : d_x4_gather_3L N 26 (m + 1) c (s : Int) n (j : Int) = (if v1 = -6 then some (c1, -6) else (if v1 = 1 then d_x4_gather_3L N 26 m (up c1 55 j (c1 50 4)) (s : Int) n ((j : Int) + 1) else some (c1, (j : Int)))) := by
      show d_x4_gather_3 N 26 (d_x4_gather_3L N 26 m) c _ n j = _
      unfold d_x4_gather_3
      rw [w32i (x := (j : Int)) (by omega) (by omega), w32i (x := n) (by omega) (by omega), w32i (x := ((16 : Nat) : Int)) (by omega) (by omega), if_pos (by omega), if_pos (by omega), e1, bI_some, w32i (x := v1) (by omega) (by omega), if_pos (show 0 ≤ (j : Int) ∧ (j : Int) < ((16 : Nat) : Int) by omega), Int.toNat_natCast]
      rfl
    have ER : d_x8_film_58L N (m + 1) r h (s : Int) n (j : Int) 1 (j : Int) = (if v1 = 1 then d_x8_film_58L N m (up r1 110 j (r1 77 38)) h (s : Int) n ((j : Int) + 1) v1 ((j : Int) + 1) else d_x8_film_58L N m (up r1 110 j (r1 77 38)) h (s : Int) n ((j : Int) + 0) v1 ((j : Int) + 1)) := by
      show d_x8_film_58 N (d_x8_film_58L N m) r h _ n j 1 j = _
      unfold d_x8_film_58 d_x8_film_103
      rw [w32i (x := (j : Int)) (by omega) (by omega), w32i (x := n) (by omega) (by omega), w32_1, if_pos (by omega), if_pos (show (1 : Int) = 1 from rfl), e2, bI_some, w32i (x := v1) (by omega) (by omega), if_pos (show 0 ≤ (j : Int) ∧ (j : Int) < ((16 : Nat) : Int) by omega), Int.toNat_natCast]
      rfl
    have Hr : ∀ x : Int, TI 26 T c1 (up r1 110 j x) := fun x => H1.cong (Or.inl rfl) (fun _ _ _ _ => rfl) (fun a k _ _ => up_ne (by omega)) (up_ne (by omega)) (up_ne (by omega))
    have stop : ∀ (z w : Int), -100 ≤ w ∧ w ≤ 100 → w ≠ 1 → d_x8_film_58L N m (up r1 110 j (r1 77 38)) h (s : Int) n z w ((j : Int) + 1) = d_x8_film_112 N (up r1 110 j (r1 77 38)) h z w := by
      intro z w hw hw1
      obtain ⟨m, rfl⟩ : ∃ m', m = m' + 1 := ⟨m - 1, by omega⟩
      show d_x8_film_58 N (d_x8_film_58L N m) _ h _ n z w ((j : Int) + 1) = _
      unfold d_x8_film_58
      rw [w32i (x := w) (by omega) (by omega), if_neg hw1]
      split <;> rfl
    rw [EC, ER]
    by_cases h1 : v1 = 1
    · rw [if_neg (show ¬ v1 = -6 by omega), if_pos h1, if_pos h1, h1]
      refine ih m _ _ (j + 1) (by omega) (by omega) ((Hr _).cong (Or.inl rfl) (fun a k _ _ => up_ne (by omega)) (fun _ _ _ _ => rfl) rfl rfl) (I1.cong (fun a k _ _ => up_ne (by omega))) (fun a k z => by rw [up_ne (by omega)]; exact ec1 a k z) (fun a k z => by rw [up_ne (by omega)]; exact er1 a k z) (fun k z y w => by rw [up_ne (by omega)]; exact er71 k z y w) (fun i hi => ?_)
      by_cases e : i = j
      · subst e
        rw [up_same, up_same]
        exact (V1 h1).symm
      · rw [up_nj e, up_nj e]
        exact hf1 i (by omega)
    · rw [if_neg h1, if_neg h1, stop _ v1 g1 h1]
      have fr : ∀ a k, ¬ (a = 77 ∨ a = 110 ∨ (86 ≤ a ∧ a ≤ 93)) → up r1 110 j (r1 77 38) a k = r0 a k := fun a k z => by rw [up_ne (by omega)]; exact er1 a k z
      have fr7 : ∀ k, k ≠ 36 → k ≠ 37 → k ≠ 38 → up r1 110 j (r1 77 38) 77 k = r0 77 k := fun k z y w => by rw [up_ne (by omega)]; exact er71 k z y w
      by_cases h6 : v1 = -6
      · rw [if_pos h6]
        exact ⟨c1, _, -6, v1, (j : Int) + 0, rfl, rfl, Hr _, I1, ec1, fr, fr7, g1, Or.inl ⟨h6, rfl⟩⟩
      · rw [if_neg h6]
        exact ⟨c1, _, (j : Int), v1, (j : Int) + 0, rfl, rfl, Hr _, I1, ec1, fr, fr7, g1, Or.inr ⟨h6, by omega, by omega, by omega, fun i hi => by rw [up_nj (by omega)]; exact hf1 i (by omega)⟩⟩
