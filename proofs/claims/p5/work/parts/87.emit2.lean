def laF (r : St) (n l : Nat) (f : Nat → Int) : St := fun a k => if a = 77 ∧ k = 35 then (n : Int) + l else if a = 102 ∧ n ≤ k ∧ k < n + l then f (k - n) else r a k
theorem laF_congr {r : St} {n l : Nat} {f g : Nat → Int} (h : ∀ i, i < l → f i = g i) : laF r n l f = laF r n l g := by
  funext a k
  unfold laF
  by_cases e : a = 77 ∧ k = 35
  · rw [if_pos e, if_pos e]
  · rw [if_neg e, if_neg e]
    by_cases e1 : a = 102 ∧ n ≤ k ∧ k < n + l
    · rw [if_pos e1, if_pos e1, h _ (by omega)]
    · rw [if_neg e1, if_neg e1]
theorem laM_F {r : St} {n : Nat} {L : List Int} : laM r n L = laF r n L.length (fun i => L.getD i 0) := rfl
/-- digits, the lowest first -/
def el : Nat → Nat → List Int
  | _, 0 => []
  | b, k + 1 => (48 + ((b % 10 : Nat) : Int)) :: el (b / 10) k
theorem el_len : ∀ k b, (el b k).length = k := by
  intro k
  induction k with
  | zero => intro b; rfl
  | succ k ih => intro b; show (el (b / 10) k).length + 1 = k + 1; rw [ih]
theorem el_get : ∀ k b i, i < k → (el b k).getD i 0 = 48 + ((b / 10 ^ i % 10 : Nat) : Int) := by
  intro k
  induction k with
  | zero => intro b i h; omega
  | succ k ih =>
    intro b i h
    cases i with
    | zero =>
      show 48 + ((b % 10 : Nat) : Int) = _
      rw [Nat.pow_zero, Nat.div_one]
    | succ i =>
      show (el (b / 10) k).getD i 0 = _
      rw [ih _ i (by omega), Nat.div_div_eq_div_mul, Nat.pow_succ, Nat.mul_comm]
theorem e_rev {N : Nat} {r : St} {n l : Nat} (hl : n + l < 4096) (g : Nat → Int) : ∀ (k m x : Nat), l - 2 * x ≤ k → k < m → 2 * x ≤ l + 1 → d_x8_digits_103L N m (laF r n l (fun i => if i < x ∨ l - x ≤ i then g (l - 1 - i) else g i)) (((n + x : Nat)) : Int) ((n : Int) + l - 1 - x) = some (laF r n l (fun i => g (l - 1 - i)), 0) := by
  intro k
  induction k with
  | zero =>
    intro m x hx hm h2
    obtain ⟨m, rfl⟩ : ∃ m', m = m' + 1 := ⟨m - 1, by omega⟩
    show d_x8_digits_103 N (d_x8_digits_103L N m) _ _ _ = _
    unfold d_x8_digits_103
    rw [w32i (x := ((n + x : Nat) : Int)) (by omega) (by omega), w32i (x := (n : Int) + l - 1 - x) (by omega) (by omega), if_neg (by omega), laF_congr (g := fun i => g (l - 1 - i)) (fun i hi => ?_)]
    by_cases e : i < x ∨ l - x ≤ i
    · rw [if_pos e]
    · rw [if_neg e, show l - 1 - i = i by omega]
  | succ k ih =>
    intro m x hx hm h2
    obtain ⟨m, rfl⟩ : ∃ m', m = m' + 1 := ⟨m - 1, by omega⟩
    show d_x8_digits_103 N (d_x8_digits_103L N m) _ _ _ = _
    unfold d_x8_digits_103
    by_cases hlt : ((n + x : Nat) : Int) < (n : Int) + l - 1 - x
    · obtain ⟨y, hy⟩ : ∃ y : Nat, (n : Int) + l - 1 - x = ((n + y : Nat) : Int) := ⟨l - 1 - x, by omega⟩
      have hy2 : y = l - 1 - x := by omega
      rw [hy] at hlt ⊢
      rw [w32i (x := ((n + x : Nat) : Int)) (by omega) (by omega), w32i (x := ((n + y : Nat) : Int)) (by omega) (by omega), if_pos hlt, if_pos (by omega), bd_eq, if_pos (by omega), if_pos (by omega), bd_eq, if_pos (by omega), bd_eq, bd_eq, bd_eq, Int.toNat_natCast, Int.toNat_natCast]
      have ea : laF r n l (fun i => if i < x ∨ l - x ≤ i then g (l - 1 - i) else g i) 102 (n + x) = g x := by
        unfold laF
        rw [if_neg (by omega), if_pos (by omega), show n + x - n = x by omega]
        exact if_neg (by omega)
      have eb : laF r n l (fun i => if i < x ∨ l - x ≤ i then g (l - 1 - i) else g i) 102 (n + y) = g y := by
        unfold laF
        rw [if_neg (by omega), if_pos (by omega), show n + y - n = y by omega]
        exact if_neg (by omega)
      rw [ea, eb]
      have est : up (up (laF r n l (fun i => if i < x ∨ l - x ≤ i then g (l - 1 - i) else g i)) 102 (n + x) (g y)) 102 (n + y) (g x) = laF r n l (fun i => if i < x + 1 ∨ l - (x + 1) ≤ i then g (l - 1 - i) else g i) := by
        funext a q
        rw [up_app, up_app]
        unfold laF
        dsimp only
        by_cases e1 : a = 102 ∧ q = n + y
        · rw [if_pos e1, if_neg (by omega), if_pos (by omega), if_pos (by omega), show l - 1 - (q - n) = x by omega]
        · rw [if_neg e1]
          by_cases e2 : a = 102 ∧ q = n + x
          · rw [if_pos e2, if_neg (by omega), if_pos (by omega), if_pos (by omega), show l - 1 - (q - n) = y by omega]
          · rw [if_neg e2]
            by_cases e3 : a = 77 ∧ q = 35
            · rw [if_pos e3, if_pos e3]
            · rw [if_neg e3, if_neg e3]
              by_cases e4 : a = 102 ∧ n ≤ q ∧ q < n + l
              · rw [if_pos e4, if_pos e4]
                by_cases e5 : q - n < x ∨ l - x ≤ q - n
                · rw [if_pos e5, if_pos (by omega)]
                · rw [if_neg e5, if_neg (by omega)]
              · rw [if_neg e4, if_neg e4]
      rw [est]
      have i := ih m (x + 1) (by omega) (by omega) (by omega)
      have e1 : ((n + y : Nat) : Int) + -1 = (n : Int) + l - 1 - ((x + 1 : Nat) : Int) := by omega
      rw [e1]
      exact i
    · rw [w32i (x := ((n + x : Nat) : Int)) (by omega) (by omega), w32i (x := (n : Int) + l - 1 - x) (by omega) (by omega), if_neg hlt, laF_congr (g := fun i => g (l - 1 - i)) (fun i hi => ?_)]
      by_cases e : i < x ∨ l - x ≤ i
      · rw [if_pos e]
      · rw [if_neg e, show l - 1 - i = i by omega]
theorem e_dg31 {N : Nat} {f : Int} : ∀ (k m b n : Nat) (r : St) (x : Int), k + 2 < m → (w64 x = (b : Int) ∨ w64 x = -(b : Int)) → b ≤ 9223372036854775808 → b < 10 ^ (k + 1) → (1 ≤ k → 10 ^ k ≤ b) → r 77 35 = n → n + k < 4000 → d_x8_digits_31L N m r f x 1 = d_x8_digits_103L N N (laM r n (el b (k + 1))) f ((n : Int) + (k + 1 : Nat) - 1) := by
  intro k
  induction k with
  | zero =>
    intro m b n r x hm hx hb h1 h2 hr hn
    obtain ⟨m, rfl⟩ : ∃ m', m = m' + 2 := ⟨m - 2, by omega⟩
    show d_x8_digits_31 N (d_x8_digits_31L N (m + 1)) r f x 1 = _
    have hb10 : b < 10 := by simpa using h1
    have hfin : ∀ z : Int, z = 48 + (b : Int) → bV (d_x8_puts N r z) (fun s6 => if 10 = 0 then none else bd (Int.tdiv (w64 x) 10) fun v8 => (if (w64 v8) = 0 then d_x8_digits_87 N (d_x8_digits_31L N (m + 1)) s6 f v8 0 else d_x8_digits_87 N (d_x8_digits_31L N (m + 1)) s6 f v8 1)) = d_x8_digits_103L N N (laM r n (el b (0 + 1))) f ((n : Int) + (0 + 1 : Nat) - 1) := by
      intro z hz
      have ht : Int.tdiv (w64 x) 10 = 0 := by
        rcases hx with e | e
        · rw [e]
          show ((b / 10 : Nat) : Int) = 0
          omega
        · rw [e, show Int.tdiv (-(b : Int)) 10 = -((b / 10 : Nat) : Int) from tdn]
          omega
      rw [e_pb hr (by omega), bV_some, if_neg (show ¬ (10 : Nat) = 0 by decide), bd_eq, ht, w64_0, if_pos rfl]
      unfold d_x8_digits_87
      show d_x8_digits_31 N (d_x8_digits_31L N m) _ f 0 0 = _
      unfold d_x8_digits_31
      rw [w32_0, if_pos rfl, bd_eq, laM_n, hz]
      show d_x8_digits_103L N N (laM r n [48 + (b : Int)]) f _ = d_x8_digits_103L N N (laM r n [48 + ((b % 10 : Nat) : Int)]) f _
      rw [Nat.mod_eq_of_lt hb10]
      congr 1
    unfold d_x8_digits_31 d_x8_digits_62
    rw [w32_1, if_neg (show ¬ (1 : Int) = 0 by decide), if_neg (show ¬ (10 : Nat) = 0 by decide), bd_eq]
    rcases hx with e | e
    · rw [e, show Int.tmod (b : Int) 10 = ((b % 10 : Nat) : Int) from rfl, Nat.mod_eq_of_lt hb10, w64i (x := (b : Int)) (by omega) (by omega), if_neg (by omega)]
      have := hfin (48 + (b : Int)) rfl
      rw [e] at this
      exact this
    · rw [e, show Int.tmod (-(b : Int)) 10 = -((b % 10 : Nat) : Int) from tmn, Nat.mod_eq_of_lt hb10, w64i (x := -(b : Int)) (by omega) (by omega)]
      have := hfin (48 + (b : Int)) rfl
      rw [e] at this
      by_cases hz : b = 0
      · rw [if_neg (by omega), show (48 : Int) + -(b : Int) = 48 + (b : Int) by omega]
        exact this
      · rw [if_pos (by omega), Int.neg_neg]
        exact this
  | succ k ih =>
    intro m b n r x hm hx hb h1 h2 hr hn
    obtain ⟨m, rfl⟩ : ∃ m', m = m' + 1 := ⟨m - 1, by omega⟩
    have h2 := h2 (by omega)
    have h10 : 10 ≤ b := by
      have : 10 ^ 1 ≤ 10 ^ (k + 1) := Nat.pow_le_pow_right (by decide) (by omega)
      omega
    show d_x8_digits_31 N (d_x8_digits_31L N m) r f x 1 = _
    have hx2 : w64 (Int.tdiv (w64 x) 10) = ((b / 10 : Nat) : Int) ∨ w64 (Int.tdiv (w64 x) 10) = -((b / 10 : Nat) : Int) := by
      rcases hx with e | e
      · left
        rw [e, show Int.tdiv (b : Int) 10 = ((b / 10 : Nat) : Int) from rfl]
        exact w64i (by omega) (by omega)
      · right
        rw [e, show Int.tdiv (-(b : Int)) 10 = -((b / 10 : Nat) : Int) from tdn]
        exact w64i (by omega) (by omega)
    have hfin : ∀ z : Int, z = 48 + ((b % 10 : Nat) : Int) → bV (d_x8_puts N r z) (fun s6 => if 10 = 0 then none else bd (Int.tdiv (w64 x) 10) fun v8 => (if (w64 v8) = 0 then d_x8_digits_87 N (d_x8_digits_31L N m) s6 f v8 0 else d_x8_digits_87 N (d_x8_digits_31L N m) s6 f v8 1)) = d_x8_digits_103L N N (laM r n (el b (k + 1 + 1))) f ((n : Int) + (k + 1 + 1 : Nat) - 1) := by
      intro z hz
      rw [e_pb hr (by omega), bV_some, if_neg (show ¬ (10 : Nat) = 0 by decide), bd_eq, if_neg (by omega)]
      unfold d_x8_digits_87
      have hn1 : laM r n [z] 77 35 = ((n + 1 : Nat) : Int) := laM_n
      rw [ih m (b / 10) (n + 1) _ _ (by omega) hx2 (by omega) (by rw [Nat.pow_succ] at h1; omega) (fun _ => by rw [Nat.pow_succ] at h2; omega) hn1 (by omega)]
      have := laM_app (r := r) (n := n) (L := [z]) (K := el (b / 10) (k + 1))
      rw [show n + [z].length = n + 1 from rfl] at this
      rw [this, hz]
      show d_x8_digits_103L N N (laM r n (el b (k + 1 + 1))) f _ = _
      congr 1
      omega
    unfold d_x8_digits_31 d_x8_digits_62
    rw [w32_1, if_neg (show ¬ (1 : Int) = 0 by decide), if_neg (show ¬ (10 : Nat) = 0 by decide), bd_eq]
    rcases hx with e | e
    · rw [e, show Int.tmod (b : Int) 10 = ((b % 10 : Nat) : Int) from rfl, w64i (x := ((b % 10 : Nat) : Int)) (by omega) (by omega), if_neg (by omega)]
      have := hfin _ rfl
      rw [e] at this
      exact this
    · rw [e, show Int.tmod (-(b : Int)) 10 = -((b % 10 : Nat) : Int) from tmn, w64i (x := -((b % 10 : Nat) : Int)) (by omega) (by omega)]
      have := hfin _ rfl
      rw [e] at this
      by_cases hz : b % 10 = 0
      · rw [if_neg (by omega), show (48 : Int) + -((b % 10 : Nat) : Int) = 48 + ((b % 10 : Nat) : Int) by omega]
        exact this
      · rw [if_pos (by omega), Int.neg_neg]
        exact this
/-- the digits of a number -/
def dgt (v : Int) : List Int := ds (w64 v).natAbs (nd 18 (w64 v).natAbs)
theorem dgt_spec (v : Int) : ∃ a L : Nat, (w64 v).natAbs = a ∧ dgt v = ds a L ∧ a ≤ 9223372036854775808 ∧ a < 10 ^ L ∧ (2 ≤ L → 10 ^ (L - 1) ≤ a) ∧ 1 ≤ L ∧ L ≤ 19 ∧ (dgt v).length = L := by
  have hr := w64_rng v
  have ha : (w64 v).natAbs ≤ 9223372036854775808 := by omega
  have sp := nd_spec 18 (w64 v).natAbs (by
    show (w64 v).natAbs < 10 ^ 19
    have : (9223372036854775808 : Nat) < 10 ^ 19 := by decide
    omega)
  exact ⟨_, _, rfl, rfl, ha, sp.1, sp.2.1, nd_pos _ _, sp.2.2, ds_len _ _⟩
theorem e_dg16 {N n : Nat} (hN : 5000 ≤ N) {r : St} {v : Int} (h : r 77 35 = n) (hn : n + 30 < 4000) : d_x8_digits_16 N r v = some (laM r n (bk n ++ dgt v), 0) := by
  obtain ⟨a, L, e1, e2, e3, e4, e5, e6, e7, e8⟩ := dgt_spec v
  have hb := bk_len n
  unfold d_x8_digits_16
  rw [e_gap h (by omega), bV_some, bd_eq, laM_n, ← laM_app]
  obtain ⟨k, rfl⟩ : ∃ k, L = k + 1 := ⟨L - 1, by omega⟩
  rw [e_dg31 k N a (n + (bk n).length) _ v (by omega) (by omega) e3 e4 (fun z => by have := e5 (by omega); rw [Nat.add_sub_cancel] at this; exact this) laM_n (by omega)]
  have rv := e_rev (N := N) (r := laM r n (bk n)) (n := n + (bk n).length) (l := k + 1) (by omega) (fun i => (el a (k + 1)).getD i 0) (k + 1) N 0 (by omega) (by omega) (by omega)
  rw [e2]
  have s1 : laM (laM r n (bk n)) (n + (bk n).length) (el a (k + 1)) = laF (laM r n (bk n)) (n + (bk n).length) (k + 1) (fun i => if i < 0 ∨ k + 1 - 0 ≤ i then (el a (k + 1)).getD (k + 1 - 1 - i) 0 else (el a (k + 1)).getD i 0) := by
    rw [laM_F, el_len]
    exact laF_congr (fun i hi => by rw [if_neg (by omega)])
  have s2 : laM (laM r n (bk n)) (n + (bk n).length) (ds a (k + 1)) = laF (laM r n (bk n)) (n + (bk n).length) (k + 1) (fun i => (el a (k + 1)).getD (k + 1 - 1 - i) 0) := by
    rw [laM_F, ds_len]
    exact laF_congr (fun i hi => by rw [ds_get a (k + 1) i hi, el_get (k + 1) a _ (by omega)])
  rw [s1, s2]
  have e0 : (((n + (bk n).length : Nat)) : Int) + ((k + 1 : Nat) : Int) - 1 - ((0 : Nat) : Int) = (((n + (bk n).length : Nat)) : Int) + ((k + 1 : Nat) : Int) - 1 := by omega
  rw [e0] at rv
  exact rv
theorem e_wn20 {N n : Nat} (hN : 5000 ≤ N) {c : St} {v : Int} (h : c 15 1 = n) (hn : n + 30 < 1024) : d_x1_writeNum_20 N c v = some (laC c n (dgt v), 0) := by
  obtain ⟨a, L, e1, e2, e3, e4, e5, e6, e7, e8⟩ := dgt_spec v
  have hr := w64_rng v
  rw [e2]
  have go : ∀ x : Int, w64 x = -(a : Int) → d_x1_writeNum_32 N c x = some (laC c n (ds a L), 0) := by
    intro x hx
    unfold d_x1_writeNum_32
    exact e_wn39 (N := N) (by omega) e3 e4 e5 ⟨e6, e7⟩ hx h (by omega) (L - 1) N 0 (by omega) (by omega)
  unfold d_x1_writeNum_20
  by_cases hv : w64 v < 0
  · rw [if_pos hv]
    exact go v (by omega)
  · rw [if_neg hv]
    refine go (-v) ?_
    have hv2 : w64 v = (a : Int) := by omega
    have : w64 (-v) = w64 (-(w64 v)) := by
      unfold w64
      rw [Int.bmod_neg_bmod]
    rw [this, hv2]
    exact w64i (by omega) (by omega)
