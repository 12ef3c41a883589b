/-- how far a part's rows reach -/
def SPN (c : St) (sp : Nat → Nat) (n p : Nat) : Prop := 1 ≤ sp p ∧ p + sp p ≤ n ∧ ((nro (c 4 p) = 0 ∧ sp p = 1) ∨ (nro (c 4 p) = 1 ∧ p + 1 < n ∧ sp p = 1 + sp (p + 1)) ∨ (nro (c 4 p) = 2 ∧ p + 1 < n ∧ p + 1 + sp (p + 1) < n ∧ sp p = 1 + sp (p + 1) + sp (p + 1 + sp (p + 1))))
theorem e_43 {N n p : Nat} (hN : 100 ≤ N) (hn : n ≤ 24) (hp : p < n) {k19 : St → Int → Int → Int → Option Rs} {s c : St} {sp : Nat → Nat} {x3 : Int} (h3 : x3 = 0) (T : SPN c sp n p) (h8 : ∀ q, p < q → q < n → s 8 q = (sp q : Nat)) : d_x5_close_43L N 2 1 k19 N s (n : Int) x3 (p : Int) (nro (c 4 p)) 1 0 = k19 (up s 8 p (sp p : Nat)) (n : Int) x3 ((p : Int) + (-1)) := by
  obtain ⟨m, hm⟩ : ∃ m, N = m + 3 := ⟨N - 3, by omega⟩
  subst h3
  have e82 : ∀ x6 : Nat, d_x5_close_82 N 2 1 k19 s (n : Int) 0 (p : Int) (x6 : Int) = k19 (up s 8 p (x6 : Int)) (n : Int) 0 ((p : Int) + (-1)) := by
    intro x6
    unfold d_x5_close_82
    rw [w32i (x := (p : Int)) (by omega) (by omega), if_pos (by omega), bd_eq, bd_eq, Int.toNat_natCast]
  have u : ∀ x5 x6 x7, d_x5_close_43L N 2 1 k19 N s (n : Int) 0 (p : Int) x5 x6 x7 = d_x5_close_43 N 2 1 k19 (d_x5_close_43L N 2 1 k19 (m + 2)) s (n : Int) 0 (p : Int) x5 x6 x7 := by
    intro x5 x6 x7
    conv => lhs; arg 5; rw [hm]
    rfl
  have stop : ∀ (f : Nat) (x5 x6 x7 : Nat), x5 ≤ 2 → x7 = x5 → d_x5_close_43L N 2 1 k19 (f + 1) s (n : Int) 0 (p : Int) (x5 : Int) (x6 : Int) (x7 : Int) = k19 (up s 8 p (x6 : Int)) (n : Int) 0 ((p : Int) + (-1)) := by
    intro f x5 x6 x7 h5 h7
    subst h7
    show d_x5_close_43 N 2 1 k19 (d_x5_close_43L N 2 1 k19 f) s (n : Int) 0 (p : Int) (x7 : Int) (x6 : Int) (x7 : Int) = _
    unfold d_x5_close_43
    rw [if_neg (Int.lt_irrefl _), e82]
  have step : ∀ (f : Nat) (x5 x6 x7 : Nat), x5 ≤ 2 → x7 < x5 → 1 ≤ x6 → p + x6 < n → d_x5_close_43L N 2 1 k19 (f + 1) s (n : Int) 0 (p : Int) (x5 : Int) (x6 : Int) (x7 : Int) = d_x5_close_43L N 2 1 k19 f s (n : Int) 0 (p : Int) (x5 : Int) ((x6 + sp (p + x6) : Nat) : Int) ((x7 + 1 : Nat) : Int) := by
    intro f x5 x6 x7 h5 h7 h6 hl
    show d_x5_close_43 N 2 1 k19 (d_x5_close_43L N 2 1 k19 f) s (n : Int) 0 (p : Int) (x5 : Int) (x6 : Int) (x7 : Int) = _
    unfold d_x5_close_43
    rw [w32i (x := (x7 : Int)) (by omega) (by omega), w32i (x := (x5 : Int)) (by omega) (by omega), if_pos (by omega), w32i (x := (p : Int) + (x6 : Int)) (by omega) (by omega), w32i (x := (0 : Int) + (n : Int)) (by omega) (by omega), if_pos (by omega), if_pos (by omega), bd_eq, bd_eq, show ((p : Int) + (x6 : Int)).toNat = p + x6 by omega, h8 (p + x6) (by omega) hl]
    rfl
  obtain ⟨t1, t2, t⟩ := T
  rcases t with ⟨a, e⟩ | ⟨a, b1, e⟩ | ⟨a, b1, b2, e⟩
  · rw [a, e, hm]
    have := stop (m + 2) 0 1 0 (by omega) rfl
    rw [hm] at this
    exact this
  · rw [a, e, hm]
    have s1 := step (m + 2) 1 1 0 (by omega) (by omega) (by omega) b1
    have s2 := stop (m + 1) 1 (1 + sp (p + 1)) 1 (by omega) rfl
    rw [hm] at s1 s2
    exact s1.trans s2
  · rw [a, e, hm]
    have s1 := step (m + 2) 2 1 0 (by omega) (by omega) (by omega) b1
    have s2 := step (m + 1) 2 (1 + sp (p + 1)) 1 (by omega) (by omega) (by omega) (by omega)
    have s3 := stop m 2 (1 + sp (p + 1) + sp (p + (1 + sp (p + 1)))) 2 (by omega) rfl
    rw [hm] at s1 s2 s3
    rw [show p + 1 + sp (p + 1) = p + (1 + sp (p + 1)) by omega]
    exact (s1.trans s2).trans s3
/-- the backward pass gives every part its span -/
theorem e_close {N n : Nat} (hN : 100 ≤ N) (hn : 1 ≤ n ∧ n ≤ 24) {c : St} {sp : Nat → Nat} (hk : ∀ p, p < n → 0 ≤ c 4 p ∧ c 4 p ≤ 13) (T : ∀ p, p < n → SPN c sp n p) : One (d_x5_close N 2 1 c 0 (n : Int)) (fun c' _ => c' 3 0 = n ∧ (∀ p, p < n → c' 8 p = (sp p : Nat)) ∧ ∀ a k, ¬ (a = 3 ∧ k = 0) → ¬ (a = 8 ∧ k < n) → c' a k = c a k) := by
  have loop : ∀ (f m : Nat) (s : St) (x3 x4 : Int), x3 = 0 → x4 = (f : Int) - 1 → f ≤ n → f < m → s 3 0 = n → (∀ q, f ≤ q → q < n → s 8 q = (sp q : Nat)) → (∀ a k, ¬ (a = 3 ∧ k = 0) → ¬ (a = 8 ∧ k < n) → s a k = c a k) → One (d_x5_close_19L N 2 1 m s (n : Int) x3 x4) (fun c' _ => c' 3 0 = n ∧ (∀ p, p < n → c' 8 p = (sp p : Nat)) ∧ ∀ a k, ¬ (a = 3 ∧ k = 0) → ¬ (a = 8 ∧ k < n) → c' a k = c a k) := by
    intro f
    induction f with
    | zero =>
      intro m s x3 x4 h3 h4 hf hm e3 e8 e
      obtain ⟨m, rfl⟩ : ∃ m', m = m' + 1 := ⟨m - 1, by omega⟩
      show One (d_x5_close_19 N 2 1 (d_x5_close_19L N 2 1 m) s (n : Int) x3 x4) _
      unfold d_x5_close_19
      rw [w32i (x := x4) (by omega) (by omega), w32i (x := x3) (by omega) (by omega), if_pos (by omega)]
      exact One.ret ⟨e3, fun p hp => e8 p (by omega) hp, e⟩
    | succ f ih =>
      intro m s x3 x4 h3 h4 hf hm e3 e8 e
      obtain ⟨m, rfl⟩ : ∃ m', m = m' + 1 := ⟨m - 1, by omega⟩
      have e4 : x4 = (f : Int) := by omega
      have ek : s 4 f = c 4 f := e 4 f (by omega) (by omega)
      show One (d_x5_close_19 N 2 1 (d_x5_close_19L N 2 1 m) s (n : Int) x3 x4) _
      unfold d_x5_close_19
      rw [e4, w32i (x := (f : Int)) (by omega) (by omega), w32i (x := x3) (by omega) (by omega), if_neg (by omega), if_pos (by omega), Int.toNat_natCast]
      show One (bI (d_x0_rows N s (s 4 f)) fun s5 v6 => d_x5_close_43L N 2 1 (d_x5_close_19L N 2 1 m) N s5 (n : Int) x3 (f : Int) v6 1 0) _
      rw [ek, e_rows (hk f (by omega)), bI_some, e_43 hN hn.2 (by omega) h3 (T f (by omega)) (fun q h1 h2 => e8 q (by omega) h2)]
      refine ih m _ x3 _ h3 (by omega) (by omega) (by omega) (by rw [up_ne (by decide)]; exact e3) (fun q h1 h2 => ?_) (fun a k h1 h2 => by rw [up_o (by omega)]; exact e a k h1 h2)
      by_cases y : q = f
      · rw [y, up_same]
      · rw [up_nj y]
        exact e8 q (by omega) h2
  unfold d_x5_close
  rw [if_pos (by decide), bd_eq, bd_eq, bd_eq]
  exact loop n N _ _ _ (by decide) (by omega) (Nat.le_refl _) (by omega) up_same (fun q h1 h2 => by omega) (fun a k h1 h2 => up_o h1)
