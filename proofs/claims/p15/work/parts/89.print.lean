/-- the TOKENS of a list's numbers, n of them -/
def lt (T : St) (p : Nat) : Nat → List (List Int)
  | 0 => []
  | n + 1 => lt T p n ++ ((if n = 0 then [] else [[44]]) ++ nt (T 25 (8 * p + n)))
/-- the TOKENS of a part -/
def fl (T : St) (p : Nat) : List (List Int) :=
  if T 19 p = 1 then nt (T 21 p) ++ nt (T 22 p)
  else if T 19 p = 2 then lt T p (T 24 p).toNat
  else if T 19 p = 3 ∨ T 19 p = 4 ∨ T 19 p = 5 then [[T 20 p]] ++ nt (T 21 p)
  else if T 19 p = 6 ∨ T 19 p = 10 then [[T 20 p]]
  else if T 19 p = 7 ∨ T 19 p = 11 then []
  else nt (T 21 p)
def tp (T : St) (p : Nat) : List (List Int) := if T 19 p = 0 then [[97 + T 21 p]] else tl (T 19 p).toNat :: fl T p
theorem jt_c (n : Nat) (w : List Int) (ws : List (List Int)) : jt n (w :: ws) = jt n [w] ++ jt (n + (jt n [w]).length) ws := jt_app [w] ws n
/-- printing behind n bytes: the class -/
def PC (T c : St) (n : Nat) : Prop := ct c T ∧ c 15 1 = n
theorem PC.la {T c : St} {n : Nat} {L : List Int} (h : PC T c n) : PC T (laC c n L) (n + L.length) := ⟨fun a k x y => (laC_o (by omega) (by omega)).trans (h.1 a k x y), laC_n⟩
def PM (T r : St) (n : Nat) : Prop := rt r T ∧ r 77 35 = n
theorem PM.la {T r : St} {n : Nat} {L : List Int} (h : PM T r n) : PM T (laM r n L) (n + L.length) := ⟨fun a k x y => (laM_o (by omega) (by omega)).trans (h.1 a k x y), laM_n⟩
theorem sg_len (n : Nat) (x : Int) : (jt n [[x]]).length ≤ 2 := by
  rw [jt_1, List.length_append]
  have := bk_len n
  show (bk n).length + 1 ≤ 2
  omega
theorem lt_len {T : St} {p : Nat} : ∀ (k n : Nat), (jt n (lt T p k)).length ≤ 24 * k := by
  intro k
  induction k with
  | zero => intro n; exact Nat.le_refl 0
  | succ k ih =>
    intro n
    show (jt n (lt T p k ++ ((if k = 0 then [] else [[44]]) ++ nt (T 25 (8 * p + k))))).length ≤ _
    rw [jt_app, List.length_append, jt_app, List.length_append]
    have a := ih n
    have b := nt_len (T 25 (8 * p + k)) (n + (jt n (lt T p k)).length + (jt (n + (jt n (lt T p k)).length) (if k = 0 then [] else [[44]])).length)
    have c : (jt (n + (jt n (lt T p k)).length) (if k = 0 then [] else [[44]])).length ≤ 2 := by
      split
      · exact Nat.zero_le _
      · exact sg_len _ _
    omega
theorem lt_len4 {T : St} {p : Nat} : ∀ (k n : Nat), (∀ i, i < k → -9999 ≤ T 25 (8 * p + i) ∧ T 25 (8 * p + i) ≤ 9999) → (jt n (lt T p k)).length + 2 ≤ 9 * k + 2 := by
  intro k
  induction k with
  | zero => intro n _; exact Nat.le_refl 2
  | succ k ih =>
    intro n h
    show (jt n (lt T p k ++ ((if k = 0 then [] else [[44]]) ++ nt (T 25 (8 * p + k))))).length + 2 ≤ _
    rw [jt_app, List.length_append, jt_app, List.length_append]
    have a := ih n (fun i hi => h i (by omega))
    have b := nt_len4 (h k (by omega)) (n + (jt n (lt T p k)).length + (jt (n + (jt n (lt T p k)).length) (if k = 0 then [] else [[44]])).length)
    have c : (jt (n + (jt n (lt T p k)).length) (if k = 0 then [] else [[44]])).length ≤ 2 := by
      split
      · exact Nat.zero_le _
      · exact sg_len _ _
    omega
/-- the class prints a list -/
theorem e_wlist {N : Nat} (hN : 5000 ≤ N) {T : St} {p am : Nat} (hp : p < 192) (ha : T 24 p = am) (h8 : am ≤ 8) (n : Nat) (c : St) (h : PC T c n) (hn : n + 250 < 1024) : d_x1_writeNums N c (p : Int) = some (laC c n (jt n (lt T p am)), 0) := by
  have loop : ∀ (k m i : Nat), i + k = am → k < m → d_x1_writeNums_2L N m (laC c n (jt n (lt T p i))) (p : Int) (i : Int) = some (laC c n (jt n (lt T p am)), 0) := by
    intro k
    induction k with
    | zero =>
      intro m i hi hm
      obtain ⟨m, rfl⟩ : ∃ m', m = m' + 1 := ⟨m - 1, by omega⟩
      have : i = am := by omega
      subst this
      have h2 := h.la (L := jt n (lt T p i))
      show d_x1_writeNums_2 N (d_x1_writeNums_2L N m) _ p i = _
      unfold d_x1_writeNums_2
      rw [w32i (x := (p : Int)) (by omega) (by omega), if_pos (by omega), Int.toNat_natCast, h2.1 24 p (by omega) (by omega), ha, if_neg (Int.lt_irrefl _)]
    | succ k ih =>
      intro m i hi hm
      obtain ⟨m, rfl⟩ : ∃ m', m = m' + 1 := ⟨m - 1, by omega⟩
      have h2 := h.la (L := jt n (lt T p i))
      have hl := lt_len (T := T) (p := p) i n
      have I := ih m (i + 1) (by omega) (by omega)
      have e1 : lt T p (i + 1) = lt T p i ++ ((if i = 0 then [] else [[44]]) ++ nt (T 25 (8 * p + i))) := rfl
      show d_x1_writeNums_2 N (d_x1_writeNums_2L N m) _ p i = _
      unfold d_x1_writeNums_2 d_x1_writeNums_22
      rw [w32i (x := (p : Int)) (by omega) (by omega), if_pos (by omega), Int.toNat_natCast, h2.1 24 p (by omega) (by omega), ha, w32i (x := (i : Int)) (by omega) (by omega), w32i (x := (am : Int)) (by omega) (by omega), if_pos (show (i : Int) < (am : Int) by omega), w32i (x := (p : Int) * 8 + (i : Int)) (by omega) (by omega), if_pos (show 0 ≤ (p : Int) * 8 + (i : Int) ∧ (p : Int) * 8 + (i : Int) < ((1536 : Nat) : Int) by omega), show ((p : Int) * 8 + (i : Int)).toNat = 8 * p + i by omega]
      by_cases e : i = 0
      · rw [if_neg (by omega), h2.1 25 _ (by omega) (by omega), e_wnum hN h2.2 (by omega), bV_some, bd_eq, laC_app, ← jt_app]
        rw [e1, if_pos e, List.nil_append] at I
        exact I
      · have hs := sg_len (n + (jt n (lt T p i)).length) 44
        have h3 := h2.la (L := jt (n + (jt n (lt T p i)).length) [[44]])
        rw [if_pos (by omega), e_ws h2.2 (by omega), bV_some, if_pos (show 0 ≤ (p : Int) * 8 + (i : Int) ∧ (p : Int) * 8 + (i : Int) < ((1536 : Nat) : Int) by omega), h3.1 25 _ (by omega) (by omega), e_wnum hN h3.2 (by omega), bV_some, bd_eq, laC_app, ← jt_app, laC_app, List.append_assoc, ← jt_app]
        rw [e1, if_neg e] at I
        sorry
  have l := loop am N 0 (by omega) (by omega)
  have e0 : jt n (lt T p 0) = [] := rfl
  rw [e0, laC_nil h.2] at l
  unfold d_x1_writeNums
  exact l
