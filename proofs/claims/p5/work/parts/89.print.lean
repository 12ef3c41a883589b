/-- the TOKENS of a list's numbers, n of them -/
def lt (T : St) (p : Nat) : Nat → List (List Int)
  | 0 => []
  | n + 1 => lt T p n ++ ((if n = 0 then [] else [[44]]) ++ nt (T 25 (8 * p + n)))
/-- the TOKENS of a part -/
def fl (T : St) (p : Nat) : List (List Int) :=
  if T 19 p = 1 then nt (T 21 p) ++ nt (T 22 p)
  else if T 19 p = 2 then lt T p (T 24 p).toNat
  else if T 19 p = 3 ∨ T 19 p = 4 ∨ T 19 p = 5 then [[T 20 p]] ++ nt (T 21 p)
  else if T 19 p = 6 ∨ T 19 p = 10 then [[T 20 p]]
  else if T 19 p = 7 ∨ T 19 p = 11 then []
  else nt (T 21 p)
def tp (T : St) (p : Nat) : List (List Int) := if T 19 p = 0 then [[97 + T 21 p]] else tl (T 19 p).toNat :: fl T p
theorem jt_c (n : Nat) (w : List Int) (ws : List (List Int)) : jt n (w :: ws) = jt n [w] ++ jt (n + (jt n [w]).length) ws := jt_app [w] ws n
/-- printing behind n bytes: the class -/
def PC (T c : St) (n : Nat) : Prop := ct c T ∧ c 15 1 = n
theorem PC.la {T c : St} {n : Nat} {L : List Int} (h : PC T c n) : PC T (laC c n L) (n + L.length) := ⟨fun a k x y => (laC_o (by omega) (by omega)).trans (h.1 a k x y), laC_n⟩
def PM (T r : St) (n : Nat) : Prop := rt r T ∧ r 77 35 = n
theorem PM.la {T r : St} {n : Nat} {L : List Int} (h : PM T r n) : PM T (laM r n L) (n + L.length) := ⟨fun a k x y => (laM_o (by omega) (by omega)).trans (h.1 a k x y), laM_n⟩
theorem sg_len (n : Nat) (x : Int) : (jt n [[x]]).length ≤ 2 := by
  rw [jt_1, List.length_append]
  have := bk_len n
  show (bk n).length + 1 ≤ 2
  omega
theorem lt_len {T : St} {p : Nat} : ∀ (k n : Nat), (jt n (lt T p k)).length ≤ 24 * k := by
  intro k
  induction k with
  | zero => intro n; exact Nat.le_refl 0
  | succ k ih =>
    intro n
    show (jt n (lt T p k ++ ((if k = 0 then [] else [[44]]) ++ nt (T 25 (8 * p + k))))).length ≤ _
    rw [jt_app, List.length_append, jt_app, List.length_append]
    have a := ih n
    have b := nt_len (T 25 (8 * p + k)) (n + (jt n (lt T p k)).length + (jt (n + (jt n (lt T p k)).length) (if k = 0 then [] else [[44]])).length)
    have c : (jt (n + (jt n (lt T p k)).length) (if k = 0 then [] else [[44]])).length ≤ 2 := by
      split
      · exact Nat.zero_le _
      · exact sg_len _ _
    omega
theorem lt_len4 {T : St} {p : Nat} : ∀ (k n : Nat), (∀ i, i < k → -9999 ≤ T 25 (8 * p + i) ∧ T 25 (8 * p + i) ≤ 9999) → (jt n (lt T p k)).length + 2 ≤ 9 * k + 2 := by
  intro k
  induction k with
  | zero => intro n _; exact Nat.le_refl 2
  | succ k ih =>
    intro n h
    show (jt n (lt T p k ++ ((if k = 0 then [] else [[44]]) ++ nt (T 25 (8 * p + k))))).length + 2 ≤ _
    rw [jt_app, List.length_append, jt_app, List.length_append]
    have a := ih n (fun i hi => h i (by omega))
    have b := nt_len4 (h k (by omega)) (n + (jt n (lt T p k)).length + (jt (n + (jt n (lt T p k)).length) (if k = 0 then [] else [[44]])).length)
    have c : (jt (n + (jt n (lt T p k)).length) (if k = 0 then [] else [[44]])).length ≤ 2 := by
      split
      · exact Nat.zero_le _
      · exact sg_len _ _
    omega
/-- the class prints a list -/
theorem e_wlist {N : Nat} (hN : 5000 ≤ N) {T : St} {p am : Nat} (hp : p < 192) (ha : T 24 p = am) (h8 : am ≤ 8) (n : Nat) (c : St) (h : PC T c n) (hn : n + 24 * am + 40 < 1024) : d_x1_writeNums N c (p : Int) = some (laC c n (jt n (lt T p am)), 0) := by
  have loop : ∀ (k m i : Nat), i + k = am → k < m → d_x1_writeNums_2L N m (laC c n (jt n (lt T p i))) (p : Int) (i : Int) = some (laC c n (jt n (lt T p am)), 0) := by
    intro k
    induction k with
    | zero =>
      intro m i hi hm
      obtain ⟨m, rfl⟩ : ∃ m', m = m' + 1 := ⟨m - 1, by omega⟩
      have : i = am := by omega
      subst this
      have h2 := h.la (L := jt n (lt T p i))
      show d_x1_writeNums_2 N (d_x1_writeNums_2L N m) _ p i = _
      unfold d_x1_writeNums_2
      rw [w32i (x := (p : Int)) (by omega) (by omega), if_pos (by omega), Int.toNat_natCast, h2.1 24 p (by omega) (by omega), ha, if_neg (Int.lt_irrefl _)]
    | succ k ih =>
      intro m i hi hm
      obtain ⟨m, rfl⟩ : ∃ m', m = m' + 1 := ⟨m - 1, by omega⟩
      have h2 := h.la (L := jt n (lt T p i))
      have hl := lt_len (T := T) (p := p) i n
      have I := ih m (i + 1) (by omega) (by omega)
      have e1 : lt T p (i + 1) = lt T p i ++ ((if i = 0 then [] else [[44]]) ++ nt (T 25 (8 * p + i))) := rfl
      show d_x1_writeNums_2 N (d_x1_writeNums_2L N m) _ p i = _
      unfold d_x1_writeNums_2 d_x1_writeNums_22
      rw [w32i (x := (p : Int)) (by omega) (by omega), if_pos (by omega), Int.toNat_natCast, h2.1 24 p (by omega) (by omega), ha, w32i (x := (i : Int)) (by omega) (by omega), w32i (x := (am : Int)) (by omega) (by omega), if_pos (show (i : Int) < (am : Int) by omega), w32i (x := (p : Int) * 8 + (i : Int)) (by omega) (by omega), if_pos (show 0 ≤ (p : Int) * 8 + (i : Int) ∧ (p : Int) * 8 + (i : Int) < ((1536 : Nat) : Int) by omega), show ((p : Int) * 8 + (i : Int)).toNat = 8 * p + i by omega]
      by_cases e : i = 0
      · rw [if_neg (by omega), h2.1 25 _ (by omega) (by omega), e_wnum hN h2.2 (by omega), bV_some, bd_eq, laC_app, ← jt_app]
        rw [e1, if_pos e, List.nil_append] at I
        exact I
      · have hs := sg_len (n + (jt n (lt T p i)).length) 44
        have h3 := h2.la (L := jt (n + (jt n (lt T p i)).length) [[44]])
        rw [if_pos (by omega), e_ws h2.2 (by omega), bV_some, if_pos (show 0 ≤ (p : Int) * 8 + (i : Int) ∧ (p : Int) * 8 + (i : Int) < ((1536 : Nat) : Int) by omega), h3.1 25 _ (by omega) (by omega), e_wnum hN h3.2 (by omega), bV_some, bd_eq, laC_app, ← jt_app, laC_app, ← jt_app]
        rw [e1, if_neg e] at I
        exact I
  have l := loop am N 0 (by omega) (by omega)
  have e0 : jt n (lt T p 0) = [] := rfl
  rw [e0, laC_nil h.2] at l
  unfold d_x1_writeNums
  exact l
/-- the TOKENS of a field -/
def ff (T : St) (p : Nat) (ch : Int) : List (List Int) := if ch = 108 then lt T p (T 24 p).toNat else if ch = 111 ∨ ch = 116 then [[T 20 p]] else if ch = 115 then nt (T 22 p) else nt (T 21 p)
theorem e_wfield {N : Nat} (hN : 5000 ≤ N) {T c : St} {p n : Nat} {ch : Int} (hp : p < 192) (hc : ch = 108 ∨ ch = 111 ∨ ch = 116 ∨ ch = 115 ∨ ch = 110 ∨ ch = 100 ∨ ch = 99) (h24 : ch = 108 → 0 ≤ T 24 p ∧ T 24 p ≤ 8) (h22 : ch = 115 → r32 (T 22 p)) (h21 : ch = 110 ∨ ch = 100 ∨ ch = 99 → r32 (T 21 p)) (h : PC T c n) (hn : n + 24 * (T 24 p).toNat + 50 < 1024) : d_x1_writeField N c (p : Int) ch = some (laC c n (jt n (ff T p ch)), 0) := by
  unfold d_x1_writeField
  have g : 0 ≤ (p : Int) ∧ (p : Int) < ((192 : Nat) : Int) := by omega
  rw [w32i (x := ch) (by omega) (by omega), w32i (x := (p : Int)) (by omega) (by omega), Int.toNat_natCast, h.1 20 p (by omega) (by omega), h.1 21 p (by omega) (by omega), h.1 22 p (by omega) (by omega)]
  simp only [if_pos g]
  rcases hc with e | e | e | e | e | e | e <;> subst e
  · have h24 := h24 rfl
    show _ = some (laC c n (jt n (lt T p (T 24 p).toNat)), 0)
    rw [if_pos rfl, e_wlist hN hp (am := (T 24 p).toNat) (by omega) (by omega) n c h (by omega), bV_some]
  · show _ = some (laC c n (jt n [[T 20 p]]), 0)
    rw [if_neg (by decide), if_pos rfl, e_ws h.2 (by omega), bV_some]
  · show _ = some (laC c n (jt n [[T 20 p]]), 0)
    rw [if_neg (by decide), if_neg (by decide), if_neg (by decide), if_pos rfl, e_ws h.2 (by omega), bV_some]
  · show _ = some (laC c n (jt n (nt (T 22 p))), 0)
    rw [if_neg (by decide), if_neg (by decide), if_pos rfl, w32r (h22 rfl), e_wnum hN h.2 (by omega), bV_some]
  · show _ = some (laC c n (jt n (nt (T 21 p))), 0)
    rw [w32r (h21 (by decide)), if_neg (by decide), if_neg (by decide), if_neg (by decide), if_neg (by decide), if_neg (by decide), if_pos rfl, e_wnum hN h.2 (by omega), bV_some]
  · show _ = some (laC c n (jt n (nt (T 21 p))), 0)
    rw [w32r (h21 (by decide)), if_neg (by decide), if_neg (by decide), if_neg (by decide), if_neg (by decide), if_neg (by decide), if_neg (by decide), if_neg (by decide), if_neg (by decide), if_neg (by decide), e_wnum hN h.2 (by omega), bV_some]
  · show _ = some (laC c n (jt n (nt (T 21 p))), 0)
    rw [w32r (h21 (by decide)), if_neg (by decide), if_neg (by decide), if_neg (by decide), if_neg (by decide), if_neg (by decide), if_neg (by decide), if_neg (by decide), if_neg (by decide), if_neg (by decide), e_wnum hN h.2 (by omega), bV_some]
theorem e_w42_0 {N e : Nat} (hN : 100 ≤ N) {c : St} {p : Nat} (t : Txt N e []) : d_x1_writePart_42L N N c (p : Int) e 0 = some (c, 0) := by
  obtain ⟨t1, t2, t3', t4⟩ := t
  have t3 : ∀ s, d_j0_length_8abf5 N s e = some (s, (0 : Int)) := t3'
  obtain ⟨m, hm⟩ : ∃ m, N = m + 1 := ⟨N - 1, by omega⟩
  have u : d_x1_writePart_42L N N c (p : Int) e 0 = d_x1_writePart_42 N (d_x1_writePart_42L N m) c (p : Int) e 0 := by
    conv => lhs; arg 2; rw [hm]
    rfl
  rw [u]
  unfold d_x1_writePart_42
  rw [if_neg t1, if_pos t2, t3, bI_some, if_neg (by decide)]
theorem e_w42_1 {N e : Nat} (hN : 5000 ≤ N) {c c1 : St} {p : Nat} {x : Int} (t : Txt N e [x]) (h : d_x1_writeField N c (p : Int) x = some (c1, 0)) : d_x1_writePart_42L N N c (p : Int) e 0 = some (c1, 0) := by
  obtain ⟨t1, t2, t3', t4⟩ := t
  have t3 : ∀ s, d_j0_length_8abf5 N s e = some (s, (1 : Int)) := t3'
  obtain ⟨m, hm⟩ : ∃ m, N = m + 2 := ⟨N - 2, by omega⟩
  have u : d_x1_writePart_42L N N c (p : Int) e 0 = d_x1_writePart_42 N (d_x1_writePart_42L N (m + 1)) c (p : Int) e 0 := by
    conv => lhs; arg 2; rw [hm]
    rfl
  have u2 : d_x1_writePart_42L N (m + 1) c1 (p : Int) e (0 + 1) = some (c1, 0) := by
    show d_x1_writePart_42 N (d_x1_writePart_42L N m) c1 (p : Int) e (0 + 1) = _
    unfold d_x1_writePart_42
    rw [if_neg t1, if_pos t2, t3, bI_some, if_neg (by decide)]
  rw [u]
  unfold d_x1_writePart_42
  have t40 : d_j0_charAt_5068e N c e 0 = some (c, x) := t4 c 0 (by show 0 < 1; decide)
  rw [if_neg t1, if_pos t2, t3, bI_some, if_pos (by decide), if_neg t1, if_pos t2, t40, bI_some, h, bV_some, bd_eq, u2]
theorem e_w42_2 {N e : Nat} (hN : 5000 ≤ N) {c c1 c2 : St} {p : Nat} {x y : Int} (t : Txt N e [x, y]) (h : d_x1_writeField N c (p : Int) x = some (c1, 0)) (h' : d_x1_writeField N c1 (p : Int) y = some (c2, 0)) : d_x1_writePart_42L N N c (p : Int) e 0 = some (c2, 0) := by
  obtain ⟨t1, t2, t3', t4⟩ := t
  have t3 : ∀ s, d_j0_length_8abf5 N s e = some (s, (2 : Int)) := t3'
  obtain ⟨m, hm⟩ : ∃ m, N = m + 3 := ⟨N - 3, by omega⟩
  have u : d_x1_writePart_42L N N c (p : Int) e 0 = d_x1_writePart_42 N (d_x1_writePart_42L N (m + 2)) c (p : Int) e 0 := by
    conv => lhs; arg 2; rw [hm]
    rfl
  have u2 : d_x1_writePart_42L N (m + 1) c2 (p : Int) e (0 + 1 + 1) = some (c2, 0) := by
    show d_x1_writePart_42 N (d_x1_writePart_42L N m) c2 (p : Int) e (0 + 1 + 1) = _
    unfold d_x1_writePart_42
    rw [if_neg t1, if_pos t2, t3, bI_some, if_neg (by decide)]
  have t41 : d_j0_charAt_5068e N c1 e (0 + 1) = some (c1, y) := t4 c1 1 (by show 1 < 2; decide)
  have u1 : d_x1_writePart_42L N (m + 2) c1 (p : Int) e (0 + 1) = some (c2, 0) := by
    show d_x1_writePart_42 N (d_x1_writePart_42L N (m + 1)) c1 (p : Int) e (0 + 1) = _
    unfold d_x1_writePart_42
    rw [if_neg t1, if_pos t2, t3, bI_some, if_pos (by decide), if_neg t1, if_pos t2, t41, bI_some, h', bV_some, bd_eq, u2]
  rw [u]
  unfold d_x1_writePart_42
  have t40 : d_j0_charAt_5068e N c e 0 = some (c, x) := t4 c 0 (by show 0 < 2; decide)
  rw [if_neg t1, if_pos t2, t3, bI_some, if_pos (by decide), if_neg t1, if_pos t2, t40, bI_some, h, bV_some, bd_eq, u1]
/-- the class prints a part -/
theorem e_wpart {N : Nat} (hN : 5000 ≤ N) {T c : St} {p n : Nat} (hp : p < 192) (w : WFp T p) (h : PC T c n) (hn : n + 24 * (T 24 p).toNat + 100 < 1024) : d_x1_writePart N c (p : Int) = some (laC c n (jt n (tp T p)), 0) := by
  have w1 := w.1
  unfold d_x1_writePart
  have g : 0 ≤ (p : Int) ∧ (p : Int) < ((192 : Nat) : Int) := by omega
  rw [w32i (x := (p : Int)) (by omega) (by omega), if_pos g, bd_eq, Int.toNat_natCast, h.1 19 p (by omega) (by omega), h.1 21 p (by omega) (by omega), w32i (x := T 19 p) (by omega) (by omega)]
  unfold tp
  by_cases hk0 : T 19 p = 0
  · rw [if_pos hk0, if_pos g, if_pos hk0, e_ws h.2 (by omega), bV_some]
  rw [if_neg hk0, if_neg hk0]
  have word : d_x0_word N c (T 19 p) = some (c, (((2 * (T 19 p).toNat + 1) : Nat) : Int)) := by
    have hk : T 19 p = 1 ∨ T 19 p = 2 ∨ T 19 p = 3 ∨ T 19 p = 4 ∨ T 19 p = 5 ∨ T 19 p = 6 ∨ T 19 p = 7 ∨ T 19 p = 8 ∨ T 19 p = 9 ∨ T 19 p = 10 ∨ T 19 p = 11 ∨ T 19 p = 12 ∨ T 19 p = 13 := by omega
    rcases hk with e | e | e | e | e | e | e | e | e | e | e | e | e <;> rw [e] <;> rfl
  have hlen : (tl (T 19 p).toNat).length ≤ 9 := (tl_ok ⟨(T 19 p).toNat, by omega⟩).1
  rw [word, bS_some, Int.toNat_natCast, e_ww (by omega) (tx_all (by omega)) (by omega) h.2 (by omega), bV_some, jt_c n (tl (T 19 p).toNat) (fl T p)]
  have h1 := h.la (L := jt n [tl (T 19 p).toNat])
  have hl1 : (jt n [tl (T 19 p).toNat]).length ≤ 10 := by
    rw [jt_1, List.length_append]
    have := bk_len n
    omega
  obtain ⟨n1, hn1⟩ : ∃ n1, n1 = n + (jt n [tl (T 19 p).toNat]).length := ⟨_, rfl⟩
  obtain ⟨c1, hc1⟩ : ∃ c1, c1 = laC c n (jt n [tl (T 19 p).toNat]) := ⟨_, rfl⟩
  rw [← hn1, ← hc1] at h1
  rw [← laC_app, ← hn1, ← hc1]
  have fin : ∀ (e : Nat) (L : St), e ≠ 1000 → d_x1_writePart_42L N N c1 (p : Int) e 0 = some (L, 0) → (if e = 1000 then none else bd e fun g15 => d_x1_writePart_42L N N c1 (p : Int) g15 0) = some (L, 0) := by
    intro e L he hL
    rw [if_neg he]
    exact hL
  have n21 : T 19 p ≠ 2 → r32 (T 21 p) := fun z => by have := w.2.1 z; unfold r32; omega
  have hk : T 19 p = 1 ∨ T 19 p = 2 ∨ T 19 p = 3 ∨ (T 19 p = 4 ∨ T 19 p = 5) ∨ (T 19 p = 6 ∨ T 19 p = 10) ∨ (T 19 p = 7 ∨ T 19 p = 11) ∨ (T 19 p = 8 ∨ T 19 p = 9) ∨ T 19 p = 12 ∨ T 19 p = 13 := by omega
  rcases hk with e | e | e | e | e | e | e | e | e
  · have n22 : r32 (T 22 p) := by have := w.2.2.2.1 e; unfold r32; omega
    have s : d_x0_shape N c1 (T 19 p) = some (c1, ((31 : Nat) : Int)) := by rw [e]; rfl
    have hf : fl T p = nt (T 21 p) ++ nt (T 22 p) := by
      unfold fl
      rw [if_pos e]
    rw [s, bS_some, Int.toNat_natCast, hf, jt_app, ← laC_app]
    have f1 := e_wfield hN (ch := 110) hp (by decide) (fun z => by omega) (fun z => by omega) (fun _ => n21 (by omega)) h1 (by omega)
    have hx := nt_len (T 21 p) n1
    have f2 := e_wfield hN (ch := 115) hp (by decide) (fun z => by omega) (fun _ => n22) (fun z => by omega) (h1.la (L := jt n1 (ff T p 110))) (by show n1 + (jt n1 (nt (T 21 p))).length + 24 * (T 24 p).toNat + 50 < 1024; omega)
    exact fin 31 _ (by decide) (e_w42_2 hN (tx_all (i := 15) (by decide)) f1 f2)
  · have n24 := w.2.2.2.2.1 e
    have s : d_x0_shape N c1 (T 19 p) = some (c1, ((33 : Nat) : Int)) := by rw [e]; rfl
    have hf : fl T p = lt T p (T 24 p).toNat := by
      unfold fl
      rw [if_neg (by omega), if_pos e]
    rw [s, bS_some, Int.toNat_natCast, hf]
    have f1 := e_wfield hN (ch := 108) hp (by decide) (fun _ => by omega) (fun z => by omega) (fun z => by omega) h1 (by omega)
    exact fin 33 _ (by decide) (e_w42_1 hN (tx_all (i := 16) (by decide)) f1)
  · have s : d_x0_shape N c1 (T 19 p) = some (c1, ((35 : Nat) : Int)) := by rw [e]; rfl
    have hf : fl T p = [[T 20 p]] ++ nt (T 21 p) := by
      unfold fl
      rw [if_neg (by omega), if_neg (by omega), if_pos (by omega)]
    rw [s, bS_some, Int.toNat_natCast, hf, jt_app, ← laC_app]
    have f1 := e_wfield hN (ch := 111) hp (by decide) (fun z => by omega) (fun z => by omega) (fun z => by omega) h1 (by omega)
    have hx := sg_len n1 (T 20 p)
    have f2 := e_wfield hN (ch := 110) hp (by decide) (fun z => by omega) (fun z => by omega) (fun _ => n21 (by omega)) (h1.la (L := jt n1 (ff T p 111))) (by show n1 + (jt n1 [[T 20 p]]).length + 24 * (T 24 p).toNat + 50 < 1024; omega)
    exact fin 35 _ (by decide) (e_w42_2 hN (tx_all (i := 17) (by decide)) f1 f2)
  · have s : d_x0_shape N c1 (T 19 p) = some (c1, ((37 : Nat) : Int)) := by rcases e with e | e <;> rw [e] <;> rfl
    have hf : fl T p = [[T 20 p]] ++ nt (T 21 p) := by
      unfold fl
      rw [if_neg (by omega), if_neg (by omega), if_pos (by omega)]
    rw [s, bS_some, Int.toNat_natCast, hf, jt_app, ← laC_app]
    have f1 := e_wfield hN (ch := 116) hp (by decide) (fun z => by omega) (fun z => by omega) (fun z => by omega) h1 (by omega)
    have hx := sg_len n1 (T 20 p)
    have f2 := e_wfield hN (ch := 110) hp (by decide) (fun z => by omega) (fun z => by omega) (fun _ => n21 (by omega)) (h1.la (L := jt n1 (ff T p 116))) (by show n1 + (jt n1 [[T 20 p]]).length + 24 * (T 24 p).toNat + 50 < 1024; omega)
    exact fin 37 _ (by decide) (e_w42_2 hN (tx_all (i := 18) (by decide)) f1 f2)
  · have s : d_x0_shape N c1 (T 19 p) = some (c1, ((39 : Nat) : Int)) := by rcases e with e | e <;> rw [e] <;> rfl
    have hf : fl T p = [[T 20 p]] := by
      unfold fl
      rw [if_neg (by omega), if_neg (by omega), if_neg (by omega), if_pos (by omega)]
    rw [s, bS_some, Int.toNat_natCast, hf]
    have f1 := e_wfield hN (ch := 111) hp (by decide) (fun z => by omega) (fun z => by omega) (fun z => by omega) h1 (by omega)
    exact fin 39 _ (by decide) (e_w42_1 hN (tx_all (i := 19) (by decide)) f1)
  · have s : d_x0_shape N c1 (T 19 p) = some (c1, ((29 : Nat) : Int)) := by rcases e with e | e <;> rw [e] <;> rfl
    have hf : fl T p = [] := by
      unfold fl
      rw [if_neg (by omega), if_neg (by omega), if_neg (by omega), if_neg (by omega), if_pos (by omega)]
    rw [s, bS_some, Int.toNat_natCast, hf]
    show _ = some (laC c1 n1 [], 0)
    rw [laC_nil h1.2]
    exact fin 29 _ (by decide) (e_w42_0 (by omega) (tx_all (i := 14) (by decide)))
  · have s : d_x0_shape N c1 (T 19 p) = some (c1, ((41 : Nat) : Int)) := by rcases e with e | e <;> rw [e] <;> rfl
    have hf : fl T p = nt (T 21 p) := by
      unfold fl
      rw [if_neg (by omega), if_neg (by omega), if_neg (by omega), if_neg (by omega), if_neg (by omega)]
    rw [s, bS_some, Int.toNat_natCast, hf]
    have f1 := e_wfield hN (ch := 100) hp (by decide) (fun z => by omega) (fun z => by omega) (fun _ => n21 (by omega)) h1 (by omega)
    exact fin 41 _ (by decide) (e_w42_1 hN (tx_all (i := 20) (by decide)) f1)
  · have s : d_x0_shape N c1 (T 19 p) = some (c1, ((43 : Nat) : Int)) := by rw [e]; rfl
    have hf : fl T p = nt (T 21 p) := by
      unfold fl
      rw [if_neg (by omega), if_neg (by omega), if_neg (by omega), if_neg (by omega), if_neg (by omega)]
    rw [s, bS_some, Int.toNat_natCast, hf]
    have f1 := e_wfield hN (ch := 110) hp (by decide) (fun z => by omega) (fun z => by omega) (fun _ => n21 (by omega)) h1 (by omega)
    exact fin 43 _ (by decide) (e_w42_1 hN (tx_all (i := 21) (by decide)) f1)
  · have s : d_x0_shape N c1 (T 19 p) = some (c1, ((45 : Nat) : Int)) := by rw [e]; rfl
    have hf : fl T p = nt (T 21 p) := by
      unfold fl
      rw [if_neg (by omega), if_neg (by omega), if_neg (by omega), if_neg (by omega), if_neg (by omega)]
    rw [s, bS_some, Int.toNat_natCast, hf]
    have f1 := e_wfield hN (ch := 99) hp (by decide) (fun z => by omega) (fun z => by omega) (fun _ => n21 (by omega)) h1 (by omega)
    exact fin 45 _ (by decide) (e_w42_1 hN (tx_all (i := 22) (by decide)) f1)
