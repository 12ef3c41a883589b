theorem sm_congr {f g : Nat → Int} : ∀ n : Nat, (∀ i, i < n → f i = g i) → sm f n = sm g n := by
  intro n
  induction n with
  | zero => intro _; rfl
  | succ n ih =>
    intro h
    show sm f n + f n = sm g n + g n
    rw [ih (fun i hi => h i (by omega)), h n (by omega)]
theorem sm_upd {f : Nat → Int} {a : Nat} : ∀ n : Nat, a < n → sm f n = sm (fun p => if p = a then 0 else f p) n + f a := by
  intro n
  induction n with
  | zero => intro h; omega
  | succ n ih =>
    intro h
    show sm f n + f n = sm _ n + (if n = a then 0 else f n) + f a
    by_cases e : a = n
    · subst e
      rw [if_pos rfl, sm_congr (f := fun p => if p = a then 0 else f p) (g := f) a (fun i hi => if_neg (by omega))]
      omega
    · rw [if_neg (by omega), ih (by omega)]
      omega
theorem sm_enum (n : Nat) (g : Nat → Nat) : ∀ (M : Nat) (f : Nat → Int), (∀ m, m < M → g m < n) → (∀ m m', m < M → m' < M → g m = g m' → m = m') → (∀ p, p < n → (∀ m, m < M → g m ≠ p) → f p = 0) → sm (fun m => f (g m)) M = sm f n := by
  intro M
  induction M with
  | zero =>
    intro f _ _ h
    show 0 = _
    have : ∀ k, k ≤ n → sm f k = 0 := by
      intro k
      induction k with
      | zero => intro _; rfl
      | succ k ih =>
        intro hk
        show sm f k + f k = 0
        rw [ih (by omega), h k (by omega) (fun m hm => by omega)]
        rfl
    exact (this n (Nat.le_refl _)).symm
  | succ M ih =>
    intro f h1 h2 h3
    show sm (fun m => f (g m)) M + f (g M) = _
    rw [sm_upd (f := f) (a := g M) n (h1 M (by omega)), ← ih (fun p => if p = g M then 0 else f p) (fun m hm => h1 m (by omega)) (fun m m' x y => h2 m m' (by omega) (by omega)) (fun p hp hm => ?_)]
    · rw [sm_congr (f := fun m => f (g m)) (g := fun m => if g m = g M then 0 else f (g m)) M (fun m hm => (if_neg (fun z => by have := h2 m M (by omega) (by omega) z; omega)).symm)]
    · by_cases e : p = g M
      · exact if_pos e
      · refine (if_neg e).trans (h3 p hp (fun m hm' => ?_))
        by_cases e2 : m = M
        · subst e2; exact fun z => e z.symm
        · exact hm m (by omega)
theorem sm_add (f : Nat → Int) (a : Nat) : ∀ b : Nat, sm f (a + b) = sm f a + sm (fun k => f (a + k)) b := by
  intro b
  induction b with
  | zero => show sm f a = sm f a + 0; omega
  | succ b ih =>
    show sm f (a + b) + f (a + b) = sm f a + (sm _ b + f (a + b))
    rw [ih]
    omega
theorem sm_cut (f : Nat → Int) (a : Nat) : ∀ b : Nat, (∀ k, k < b → f (a + k) = 0) → sm f (a + b) = sm f a := by
  intro b
  induction b with
  | zero => intro _; rfl
  | succ b ih =>
    intro h
    show sm f (a + b) + f (a + b) = sm f a
    rw [ih (fun k hk => h k (by omega)), h b (by omega), Int.add_zero]
/-- all places (or heads) of the class's table -/
theorem e_allP {t N : Nat} {T c : St} (hN : 200 ≤ N) (M : MT t T c) : d_x6_allPlaces N t c = some (c, sm (fun p => c (t + 1) p) 192) := by
  obtain ⟨n, hn⟩ : ∃ n : Nat, c t 11 = n := ⟨(c t 11).toNat, by have := M.1; omega⟩
  have h192 : n ≤ 192 := by have := M.2.1; omega
  have loop : ∀ (k m j : Nat) (x : Int), j + k = n → k < m → d_x6_allPlaces_4L N t m c x (j : Int) = some (c, x + sm (fun i => c (t + 1) (c (t + 11) (j + i)).toNat) k) := by
    intro k
    induction k with
    | zero =>
      intro m j x hj hm
      obtain ⟨m, rfl⟩ : ∃ m', m = m' + 1 := ⟨m - 1, by omega⟩
      show d_x6_allPlaces_4 N t (d_x6_allPlaces_4L N t m) c x j = _
      unfold d_x6_allPlaces_4
      rw [hn, w32i (x := (j : Int)) (by omega) (by omega), w32i (x := (n : Int)) (by omega) (by omega), if_neg (by omega)]
      show _ = some (c, x + 0)
      rw [Int.add_zero]
    | succ k ih =>
      intro m j x hj hm
      obtain ⟨m, rfl⟩ : ∃ m', m = m' + 1 := ⟨m - 1, by omega⟩
      have hr := M.2.2.1 j (by omega)
      show d_x6_allPlaces_4 N t (d_x6_allPlaces_4L N t m) c x j = _
      unfold d_x6_allPlaces_4
      rw [hn, w32i (x := (j : Int)) (by omega) (by omega), w32i (x := (n : Int)) (by omega) (by omega), if_pos (by omega), if_pos (by omega), Int.toNat_natCast, w32i (x := c (t + 11) j) (by omega) (by omega), if_pos (by omega), bd_eq, bd_eq]
      have := ih m (j + 1) (x + c (t + 1) (c (t + 11) j).toNat) (by omega) (by omega)
      have e : d_x6_allPlaces_4L N t m c (x + c (t + 1) (c (t + 11) j).toNat) ((j : Int) + 1) = _ := this
      rw [e]
      have s1 := sm_add (fun i => c (t + 1) (c (t + 11) (j + i)).toNat) 1 k
      have s2 : sm (fun i => c (t + 1) (c (t + 11) (j + (1 + i))).toNat) k = sm (fun i => c (t + 1) (c (t + 11) (j + 1 + i)).toNat) k := sm_congr k (fun i _ => by rw [show j + (1 + i) = j + 1 + i by omega])
      rw [Nat.add_comm k 1, s1, s2]
      show some (c, x + c (t + 1) (c (t + 11) j).toNat + sm _ k) = some (c, x + (0 + c (t + 1) (c (t + 11) (j + 0)).toNat + sm _ k))
      rw [Int.zero_add, Int.add_assoc]
      rfl
  unfold d_x6_allPlaces
  have l := loop n N 0 0 (by omega) (by omega)
  have e : d_x6_allPlaces_4L N t N c 0 0 = _ := l
  rw [e, Int.zero_add, sm_congr (f := fun i => c (t + 1) (c (t + 11) (0 + i)).toNat) (g := fun m => (fun p => c (t + 1) p) ((fun m => (c (t + 11) m).toNat) m)) n (fun i _ => by rw [Nat.zero_add])]
  rw [sm_enum 192 (fun m => (c (t + 11) m).toNat) n (fun p => c (t + 1) p) (fun m hm => by have := M.2.2.1 m (by omega); omega) (fun m m' a b z => by have h1 := M.2.2.1 m (by omega); have h2 := M.2.2.1 m' (by omega); exact M.2.2.2.1 m m' (by omega) (by omega) (by omega)) (fun p hp hm => ?_)]
  rcases M.2.2.2.2 p hp with z | ⟨_, _, m, y1, y2⟩
  · exact z.2.1
  · exact absurd (by rw [y2, Int.toNat_natCast]) (hm m (by omega))
theorem e_allH {t N : Nat} {T c : St} (hN : 200 ≤ N) (M : MT t T c) : d_x6_allHeads N t c = some (c, sm (fun p => c (t + 2) p) 192) := by
  obtain ⟨n, hn⟩ : ∃ n : Nat, c t 11 = n := ⟨(c t 11).toNat, by have := M.1; omega⟩
  have h192 : n ≤ 192 := by have := M.2.1; omega
  have loop : ∀ (k m j : Nat) (x : Int), j + k = n → k < m → d_x6_allHeads_4L N t m c x (j : Int) = some (c, x + sm (fun i => c (t + 2) (c (t + 11) (j + i)).toNat) k) := by
    intro k
    induction k with
    | zero =>
      intro m j x hj hm
      obtain ⟨m, rfl⟩ : ∃ m', m = m' + 1 := ⟨m - 1, by omega⟩
      show d_x6_allHeads_4 N t (d_x6_allHeads_4L N t m) c x j = _
      unfold d_x6_allHeads_4
      rw [hn, w32i (x := (j : Int)) (by omega) (by omega), w32i (x := (n : Int)) (by omega) (by omega), if_neg (by omega)]
      show _ = some (c, x + 0)
      rw [Int.add_zero]
    | succ k ih =>
      intro m j x hj hm
      obtain ⟨m, rfl⟩ : ∃ m', m = m' + 1 := ⟨m - 1, by omega⟩
      have hr := M.2.2.1 j (by omega)
      show d_x6_allHeads_4 N t (d_x6_allHeads_4L N t m) c x j = _
      unfold d_x6_allHeads_4
      rw [hn, w32i (x := (j : Int)) (by omega) (by omega), w32i (x := (n : Int)) (by omega) (by omega), if_pos (by omega), if_pos (by omega), Int.toNat_natCast, w32i (x := c (t + 11) j) (by omega) (by omega), if_pos (by omega), bd_eq, bd_eq]
      have := ih m (j + 1) (x + c (t + 2) (c (t + 11) j).toNat) (by omega) (by omega)
      have e : d_x6_allHeads_4L N t m c (x + c (t + 2) (c (t + 11) j).toNat) ((j : Int) + 1) = _ := this
      rw [e]
      have s1 := sm_add (fun i => c (t + 2) (c (t + 11) (j + i)).toNat) 1 k
      have s2 : sm (fun i => c (t + 2) (c (t + 11) (j + (1 + i))).toNat) k = sm (fun i => c (t + 2) (c (t + 11) (j + 1 + i)).toNat) k := sm_congr k (fun i _ => by rw [show j + (1 + i) = j + 1 + i by omega])
      rw [Nat.add_comm k 1, s1, s2]
      show some (c, x + c (t + 2) (c (t + 11) j).toNat + sm _ k) = some (c, x + (0 + c (t + 2) (c (t + 11) (j + 0)).toNat + sm _ k))
      rw [Int.zero_add, Int.add_assoc]
      rfl
  unfold d_x6_allHeads
  have l := loop n N 0 0 (by omega) (by omega)
  have e : d_x6_allHeads_4L N t N c 0 0 = _ := l
  rw [e, Int.zero_add, sm_congr (f := fun i => c (t + 2) (c (t + 11) (0 + i)).toNat) (g := fun m => (fun p => c (t + 2) p) ((fun m => (c (t + 11) m).toNat) m)) n (fun i _ => by rw [Nat.zero_add])]
  rw [sm_enum 192 (fun m => (c (t + 11) m).toNat) n (fun p => c (t + 2) p) (fun m hm => by have := M.2.2.1 m (by omega); omega) (fun m m' a b z => by have h1 := M.2.2.1 m (by omega); have h2 := M.2.2.1 m' (by omega); exact M.2.2.2.1 m m' (by omega) (by omega) (by omega)) (fun p hp hm => ?_)]
  rcases M.2.2.2.2 p hp with z | ⟨_, _, m, y1, y2⟩
  · exact z.2.2.1
  · exact absurd (by rw [y2, Int.toNat_natCast]) (hm m (by omega))
/-- the model counts its heads -/
theorem e_tH {N p : Nat} {r : St} (hN : 200 ≤ N) (hp : p < 192) (h : ∀ i : Nat, i < 64 → r 91 (64 * p + i) ≠ 2 ∧ -100 ≤ r 91 (64 * p + i) ∧ r 91 (64 * p + i) ≤ 100) : d_x8_toldHeads N r (p : Int) = some (r, cn (fun i => r 91 (64 * p + i)) 64) := by
  have loop : ∀ (k m j : Nat) (x : Int), j + k = 64 → k < m → d_x8_toldHeads_4L N m r (p : Int) x (j : Int) = some (r, x + (cn (fun i => r 91 (64 * p + i)) 64 - cn (fun i => r 91 (64 * p + i)) j)) := by
    intro k
    induction k with
    | zero =>
      intro m j x hj hm
      obtain ⟨m, rfl⟩ : ∃ m', m = m' + 1 := ⟨m - 1, by omega⟩
      show d_x8_toldHeads_4 N (d_x8_toldHeads_4L N m) r p x j = _
      unfold d_x8_toldHeads_4
      have : j = 64 := by omega
      subst this
      rw [if_neg (by decide), Int.sub_self, Int.add_zero]
    | succ k ih =>
      intro m j x hj hm
      obtain ⟨m, rfl⟩ : ∃ m', m = m' + 1 := ⟨m - 1, by omega⟩
      have hr := h j (by omega)
      have e64 : (64 * (p : Int) + (j : Int)).toNat = 64 * p + j := by omega
      show d_x8_toldHeads_4 N (d_x8_toldHeads_4L N m) r p x j = _
      unfold d_x8_toldHeads_4 d_x8_toldHeads_30
      rw [w32i (x := (j : Int)) (by omega) (by omega), if_pos (by omega), w32i (x := 64 * (p : Int) + (j : Int)) (by omega) (by omega), if_pos (by omega), e64, w32i (x := r 91 (64 * p + j)) (by omega) (by omega), bd_eq, bd_eq, bd_eq, bd_eq]
      have i0 := ih m (j + 1) (x + 0) (by omega) (by omega)
      have i1 := ih m (j + 1) (x + 1) (by omega) (by omega)
      have c1 : cn (fun i => r 91 (64 * p + i)) (j + 1) = cn (fun i => r 91 (64 * p + i)) j + (if r 91 (64 * p + j) = 0 ∨ r 91 (64 * p + j) = 2 then 0 else 1) := rfl
      by_cases e : r 91 (64 * p + j) = 0
      · rw [if_pos e]
        rw [if_pos (Or.inl e)] at c1
        have i0' : d_x8_toldHeads_4L N m r (p : Int) (x + 0) ((j : Int) + 1) = _ := i0
        rw [i0', c1]
        congr 2
        omega
      · rw [if_neg e]
        rw [if_neg (by omega)] at c1
        have i1' : d_x8_toldHeads_4L N m r (p : Int) (x + 1) ((j : Int) + 1) = _ := i1
        rw [i1', c1]
        congr 2
        omega
  unfold d_x8_toldHeads
  have l : d_x8_toldHeads_4L N N r (p : Int) 0 0 = _ := loop 64 N 0 0 (by omega) (by omega)
  rw [l]
  show some (r, 0 + (_ - 0)) = _
  rw [Int.sub_zero, Int.zero_add]
/-- the model's sums over all parts: f is what one part has -/
theorem e_tA {N : Nat} {r : St} (hN : 200 ≤ N) {w : Int} (f : Nat → Int) (hw : w = 0 ∨ w = 1) (h18 : ∀ s : Nat, s < 8 → 0 ≤ r 78 s ∧ r 78 s ≤ 24) (hf0 : w = 0 → ∀ p : Nat, p < 192 → r 86 p = f p) (hf1 : w = 1 → ∀ p : Nat, p < 192 → d_x8_toldHeads N r (p : Int) = some (r, f p)) (hz : ∀ s k : Nat, s < 8 → k < 24 → r 78 s ≤ k → f (24 * s + k) = 0) : d_x8_toldAll N r w = some (r, sm f 192) := by
  have inner : ∀ (K : St → Int → Int → Int → Option Rs) (s : Nat), s < 8 → ∀ (k m j : Nat) (x : Int), (j : Int) + k = r 78 s → k < m → d_x8_toldAll_13L N K m r w x (s : Int) (j : Int) = K r w (x + (sm f (24 * s + (j + k)) - sm f (24 * s + j))) ((s : Int) + 1) := by
    intro K s hs k
    have h := h18 s hs
    induction k with
    | zero =>
      intro m j x hj hm
      obtain ⟨m, rfl⟩ : ∃ m', m = m' + 1 := ⟨m - 1, by omega⟩
      show d_x8_toldAll_13 N K (d_x8_toldAll_13L N K m) r w x s j = _
      unfold d_x8_toldAll_13
      rw [w32i (x := (s : Int)) (by omega) (by omega), Int.toNat_natCast, if_pos (by omega), w32i (x := r 78 s) (by omega) (by omega), w32i (x := (j : Int)) (by omega) (by omega), if_neg (by omega), bd_eq, Nat.add_zero, Int.sub_self, Int.add_zero]
    | succ k ih =>
      intro m j x hj hm
      obtain ⟨m, rfl⟩ : ∃ m', m = m' + 1 := ⟨m - 1, by omega⟩
      have e24 : (24 * (s : Int) + (j : Int)) = ((24 * s + j : Nat) : Int) := by omega
      have i := ih m (j + 1) (x + f (24 * s + j)) (by omega) (by omega)
      have i' : d_x8_toldAll_13L N K m r w (x + f (24 * s + j)) (s : Int) ((j : Int) + 1) = _ := i
      have hfin : x + f (24 * s + j) + (sm f (24 * s + (j + 1 + k)) - sm f (24 * s + (j + 1))) = x + (sm f (24 * s + (j + (k + 1))) - sm f (24 * s + j)) := by
        have : sm f (24 * s + (j + 1)) = sm f (24 * s + j) + f (24 * s + j) := rfl
        rw [this, show j + 1 + k = j + (k + 1) by omega]
        omega
      show d_x8_toldAll_13 N K (d_x8_toldAll_13L N K m) r w x s j = _
      unfold d_x8_toldAll_13 d_x8_toldAll_55
      rw [w32i (x := (s : Int)) (by omega) (by omega), Int.toNat_natCast, if_pos (by omega), w32i (x := r 78 s) (by omega) (by omega), w32i (x := (j : Int)) (by omega) (by omega), if_pos (by omega), e24]
      rcases hw with e | e
      · have g := hf0 e (24 * s + j) (by omega)
        subst e
        rw [w32_0, if_pos rfl, w32i (x := ((24 * s + j : Nat) : Int)) (by omega) (by omega), if_pos (by omega), Int.toNat_natCast, g, bd_eq, bd_eq, i', hfin]
      · have g := hf1 e (24 * s + j) (by omega)
        subst e
        rw [w32_1, if_neg (by decide), g, bI_some, bd_eq, bd_eq, i', hfin]
  have outer : ∀ (k m s : Nat) (x : Int), s + k = 8 → k < m → d_x8_toldAll_4L N m r w x (s : Int) = some (r, x + (sm f 192 - sm f (24 * s))) := by
    intro k
    induction k with
    | zero =>
      intro m s x hs hm
      obtain ⟨m, rfl⟩ : ∃ m', m = m' + 1 := ⟨m - 1, by omega⟩
      have : s = 8 := by omega
      subst this
      show d_x8_toldAll_4 N (d_x8_toldAll_4L N m) r w x _ = _
      unfold d_x8_toldAll_4
      rw [if_neg (by decide)]
      show _ = some (r, x + (sm f 192 - sm f 192))
      rw [Int.sub_self, Int.add_zero]
    | succ k ih =>
      intro m s x hs hm
      obtain ⟨m, rfl⟩ : ∃ m', m = m' + 1 := ⟨m - 1, by omega⟩
      have h := h18 s (by omega)
      show d_x8_toldAll_4 N (d_x8_toldAll_4L N m) r w x _ = _
      unfold d_x8_toldAll_4
      rw [if_pos (by rw [w32i (by omega) (by omega)]; omega)]
      have l : d_x8_toldAll_13L N (d_x8_toldAll_4L N m) N r w x (s : Int) 0 = _ := inner (d_x8_toldAll_4L N m) s (by omega) (r 78 s).toNat N 0 x (by omega) (by omega)
      rw [l]
      have i := ih m (s + 1) (x + (sm f (24 * s + (0 + (r 78 s).toNat)) - sm f (24 * s + 0))) (by omega) (by omega)
      have i' : d_x8_toldAll_4L N m r w (x + (sm f (24 * s + (0 + (r 78 s).toNat)) - sm f (24 * s + 0))) ((s : Int) + 1) = _ := i
      rw [i']
      have c1 : sm f (24 * s + (r 78 s).toNat + (24 - (r 78 s).toNat)) = sm f (24 * s + (r 78 s).toNat) := sm_cut f _ _ (fun k hk => by
        have := hz s ((r 78 s).toNat + k) (by omega) (by omega) (by omega)
        rw [← Nat.add_assoc] at this
        exact this)
      rw [show 24 * s + (r 78 s).toNat + (24 - (r 78 s).toNat) = 24 * (s + 1) by omega] at c1
      rw [c1, Nat.zero_add, Nat.add_zero]
      congr 2
      omega
  unfold d_x8_toldAll
  have l : d_x8_toldAll_4L N N r w 0 0 = _ := outer 8 N 0 0 (by omega) (by omega)
  rw [l]
  show some (r, 0 + (sm f 192 - 0)) = _
  rw [Int.sub_zero, Int.zero_add]
theorem RG.zero {c r : St} (H : RG c r) {s k : Nat} (hs : s < 8) (hk : k < 24) (h : c 18 s ≤ k) : c 27 (24 * s + k) = 0 ∧ c 28 (24 * s + k) = 0 := by
  rcases H.2.1.2.2.1.2.2.2.2 (24 * s + k) (by omega) with z | ⟨_, z, _⟩
  · exact ⟨z.2.1, z.2.2.1⟩
  · have hd : (24 * s + k) % 24 = k ∧ (24 * s + k) / 24 = s := sk hk
    have z2 := z.2
    rw [hd.1, hd.2, ← tx_ct c r 18 s (by omega) (by omega)] at z2
    omega
theorem RG.hd {c r : St} (H : RG c r) {p : Nat} (hp : p < 192) : (∀ i : Nat, i < 64 → r 91 (64 * p + i) ≠ 2 ∧ -100 ≤ r 91 (64 * p + i) ∧ r 91 (64 * p + i) ≤ 100) ∧ c 28 p = cn (fun i => r 91 (64 * p + i)) 64 := by
  have e : ∀ i : Nat, i < 64 → r 91 (64 * p + i) = c 33 (64 * p + i) := fun i hi => (H.2.1.2.1.2.1 p i hp hi).1
  refine ⟨fun i hi => ?_, ?_⟩
  · have z := H.2.1.2.1.2.1 p i hp hi
    have y := (H.2.1.2.2.2 p hp).2 i hi
    unfold TM at z
    rw [e i hi]
    have z2 := z.2.1
    refine ⟨y, ?_⟩
    show -100 ≤ c (26 + 7) (64 * p + i) ∧ c (26 + 7) (64 * p + i) ≤ 100
    omega
  · have z := H.2.1.2.1.2.2.2.2.1 p hp
    unfold HC at z
    refine Eq.trans z ?_
    exact cn_congr 64 (fun i hi => (e i hi).symm)
theorem tA0 {N : Nat} (hN : 200 ≤ N) {c r : St} (H : RG c r) : d_x8_toldAll N r 0 = some (r, sm (fun p => c 27 p) 192) := by
  have hp := H.p18
  refine e_tA hN (fun p => c 27 p) (Or.inl rfl) (fun s hs => by have := hp s hs; omega) (fun _ p hp => (H.2.1.2.1.1 p hp).1) (fun z => by omega) (fun s k hs hk h => (H.zero hs hk (by have := hp s hs; omega)).1)
theorem tA1 {N : Nat} (hN : 200 ≤ N) {c r : St} (H : RG c r) : d_x8_toldAll N r 1 = some (r, sm (fun p => c 28 p) 192) := by
  have hp := H.p18
  refine e_tA hN (fun p => c 28 p) (Or.inr rfl) (fun s hs => by have := hp s hs; omega) (fun z => by omega) (fun _ p hp => ?_) (fun s k hs hk h => (H.zero hs hk (by have := hp s hs; omega)).2)
  have h := H.hd hp
  rw [h.2]
  exact e_tH hN hp h.1
/-- forget() -/
theorem r_forget {N : Nat} (hN : 200 ≤ N) {c r : St} (H : RG c r) : Two (d_x7_forget N c) (d_x8_forget N r) (QG c r) := by
  unfold d_x7_forget d_x8_forget
  refine Two.cL (e_allP hN H.2.1.2.2.1) ?_
  refine Two.cL (e_allH hN H.2.1.2.2.1) ?_
  refine Two.cR (tA0 hN H) ?_
  refine Two.cR (tA1 hN H) ?_
  refine Two.bdL (Two.bdR ?_)
  obtain ⟨c2, r2, w, w', e1, e2, q⟩ := S_unt hN (c1 := c) (r1 := r) H (fun _ _ _ => rfl) (fun _ _ _ _ => rfl) (fun _ _ => rfl) H.1 H.2.1.1
  refine Two.vL e1 ?_
  refine Two.vR e2 ?_
  exact Two.ret rfl (q _)
