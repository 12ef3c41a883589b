/-- the model's tokens behind others -/
theorem m_num {N n : Nat} (hN : 5000 ≤ N) {r : St} {W : List (List Int)} {v : Int} (h : n + (jt n W).length + 40 < 4000) : d_x8_digits N (laM r n (jt n W)) v = some (laM r n (jt n (W ++ nt v)), 0) := by
  rw [e_mnum hN laM_n h, laM_app, ← jt_app]
theorem m_wd {N n : Nat} {r : St} {W : List (List Int)} {x : Int} (hx : r32 x ∧ x ≠ 0) (h : n + (jt n W).length + 40 < 4000) : d_x8_word N (laM r n (jt n W)) x 0 0 0 0 = some (laM r n (jt n (W ++ [[x]])), 0) := by
  have z : r32 0 := by unfold r32; omega
  have e : nz x ++ nz 0 ++ nz 0 ++ nz 0 ++ nz 0 = [x] := by
    have : nz x = [x] := by unfold nz; rw [if_neg hx.2]
    rw [this]
    rfl
  rw [e_wd hx z z z z laM_n (by omega), laM_app, ← jt_app, e]
/-- the model prints a list -/
theorem m_list {N : Nat} (hN : 5000 ≤ N) {k7 : St → Int → Int → Option Rs} {T r : St} {n p am : Nat} {W : List (List Int)} {x1 x2 : Int} (hp : p < 192) (R : rt r T) (ha : T 84 p = am) (h8 : am ≤ 8) (hv : ∀ i : Nat, i < am → T 85 (8 * p + i) = T 25 (8 * p + i)) (hn : n + (jt n W).length + 300 < 4000) : d_x8_prints_94 N k7 (laM r n (jt n W)) x1 x2 (p : Int) = k7 (laM r n (jt n (W ++ lt T p am))) x1 (x2 + 1) := by
  have loop : ∀ (k m i : Nat), i + k = am → k < m → d_x8_prints_97L N k7 m (laM r n (jt n (W ++ lt T p i))) x1 x2 (p : Int) (i : Int) = k7 (laM r n (jt n (W ++ lt T p am))) x1 (x2 + 1) := by
    intro k
    induction k with
    | zero =>
      intro m i hi hm
      obtain ⟨m, rfl⟩ : ∃ m', m = m' + 1 := ⟨m - 1, by omega⟩
      have : i = am := by omega
      subst this
      show d_x8_prints_97 N k7 (d_x8_prints_97L N k7 m) _ x1 x2 p i = _
      unfold d_x8_prints_97
      rw [w32i (x := (p : Int)) (by omega) (by omega), if_pos (by omega), Int.toNat_natCast, laM_o (by omega) (by omega), R 84 p (by omega) (by omega), ha, if_neg (Int.lt_irrefl _), bd_eq]
    | succ k ih =>
      intro m i hi hm
      obtain ⟨m, rfl⟩ : ∃ m', m = m' + 1 := ⟨m - 1, by omega⟩
      have I := ih m (i + 1) (by omega) (by omega)
      have hl := lt_len (T := T) (p := p) i (n + (jt n W).length)
      have hj : (jt n (W ++ lt T p i)).length ≤ (jt n W).length + 24 * i := by
        rw [jt_app, List.length_append]
        omega
      have e1 : W ++ lt T p (i + 1) = W ++ lt T p i ++ ((if i = 0 then [] else [[44]]) ++ nt (T 25 (8 * p + i))) := by
        rw [List.append_assoc]
        rfl
      show d_x8_prints_97 N k7 (d_x8_prints_97L N k7 m) _ x1 x2 p i = _
      unfold d_x8_prints_97 d_x8_prints_123
      have g : 0 ≤ 8 * (p : Int) + (i : Int) ∧ 8 * (p : Int) + (i : Int) < ((1536 : Nat) : Int) := by omega
      rw [w32i (x := (p : Int)) (by omega) (by omega), if_pos (by omega), Int.toNat_natCast, laM_o (by omega) (by omega), R 84 p (by omega) (by omega), ha, w32i (x := (i : Int)) (by omega) (by omega), w32i (x := (am : Int)) (by omega) (by omega), if_pos (show (i : Int) < (am : Int) by omega), w32i (x := 8 * (p : Int) + (i : Int)) (by omega) (by omega), show (8 * (p : Int) + (i : Int)).toNat = 8 * p + i by omega]
      by_cases e : i = 0
      · rw [if_neg (by omega), if_pos g, laM_o (by omega) (by omega), R 85 _ (by omega) (by omega), hv i (by omega), m_num hN (by omega), bV_some, bd_eq]
        rw [e1, if_pos e, List.nil_append] at I
        exact I
      · have hs := sg_len (n + (jt n (W ++ lt T p i)).length) 44
        have hj2 : (jt n (W ++ lt T p i ++ [[44]])).length ≤ (jt n W).length + 24 * i + 2 := by
          rw [jt_app, List.length_append]
          omega
        rw [if_pos (by omega), m_wd ⟨by unfold r32; omega, by decide⟩ (by omega), bV_some, if_pos g, laM_o (by omega) (by omega), R 85 _ (by omega) (by omega), hv i (by omega), m_num hN (by omega), bV_some, bd_eq]
        rw [e1, if_neg e, ← List.append_assoc] at I
        exact I
  have l := loop am N 0 (by omega) (by omega)
  have e0 : W ++ lt T p 0 = W := List.append_nil W
  rw [e0] at l
  exact l
/-- the word before a part -/
def kw (T : St) (p : Nat) : List Int := if T 19 p = 0 then [97 + T 21 p] else tl (T 19 p).toNat
theorem m_kind {N : Nat} {T r : St} {n p : Nat} (hp : p < 192) (w : WFp T p) (h : PM T r n) (hn : n + 100 < 4000) : d_x8_kindWord N r (p : Int) = some (laM r n (jt n [kw T p]), 0) := by
  have w1 := w.1
  have e79 : r 79 p = T 19 p := by rw [h.1 79 p (by omega) (by omega)]; exact w1.1
  have hl : ∀ x : Int, 0 ≤ x ∧ x < 200 → r32 x := fun x hx => by unfold r32; omega
  unfold kw d_x8_kindWord
  rw [w32i (x := (p : Int)) (by omega) (by omega), if_pos (by omega), bd_eq, Int.toNat_natCast, e79]
  have hk : T 19 p = 0 ∨ T 19 p = 1 ∨ T 19 p = 2 ∨ T 19 p = 3 ∨ T 19 p = 4 ∨ T 19 p = 5 ∨ T 19 p = 6 ∨ T 19 p = 7 ∨ T 19 p = 8 ∨ T 19 p = 9 ∨ T 19 p = 10 ∨ T 19 p = 11 ∨ T 19 p = 12 ∨ T 19 p = 13 := by omega
  rcases hk with e | e | e | e | e | e | e | e | e | e | e | e | e | e
  · have n21 := w.2.2.1 e
    have n82 := (w.2.1 (by omega)).1
    have z : r32 0 := hl 0 (by decide)
    have e2 : nz (97 + T 21 p) ++ nz 0 ++ nz 0 ++ nz 0 ++ nz 0 = [97 + T 21 p] := by
      have : nz (97 + T 21 p) = [97 + T 21 p] := by unfold nz; rw [if_neg (by omega)]
      rw [this]
      rfl
    rw [if_pos e, e, if_pos w32_0, if_pos (by omega), h.1 82 p (by omega) (by omega), n82, e_wd ⟨hl _ (by omega), by omega⟩ z z z z h.2 (by omega), bV_some, e2]
    unfold d_x8_kindWord_29
    rw [if_neg (by decide)]
    unfold d_x8_kindWord_47
    rw [if_neg (by decide)]
    unfold d_x8_kindWord_65
    rw [if_neg (by decide)]
    unfold d_x8_kindWord_82
    rw [if_neg (by decide)]
    unfold d_x8_kindWord_100
    rw [if_neg (by decide)]
    unfold d_x8_kindWord_119
    rw [if_neg (by decide)]
    unfold d_x8_kindWord_137
    rw [if_neg (by decide)]
    unfold d_x8_kindWord_157
    rw [if_neg (by decide)]
    unfold d_x8_kindWord_176
    rw [if_neg (by decide)]
    unfold d_x8_kindWord_195
    rw [if_neg (by decide)]
    unfold d_x8_kindWord_214
    rw [if_neg (by decide)]
    unfold d_x8_kindWord_234
    rw [if_neg (by decide)]
    unfold d_x8_kindWord_253
    rw [if_neg (by decide)]
  · rw [if_neg (show ¬ T 19 p = 0 by omega), e, if_neg (by decide)]
    have e2 : nz 102 ++ nz 114 ++ nz 111 ++ nz 109 ++ nz 0 = tl (1 : Int).toNat := by decide +kernel
    unfold d_x8_kindWord_29
    rw [if_pos (by decide), e_wd ⟨hl _ (by decide), by decide⟩ (hl _ (by decide)) (hl _ (by decide)) (hl _ (by decide)) (hl _ (by decide)) h.2 (by omega), bV_some, e2]
    unfold d_x8_kindWord_47
    rw [if_neg (by decide)]
    unfold d_x8_kindWord_65
    rw [if_neg (by decide)]
    unfold d_x8_kindWord_82
    rw [if_neg (by decide)]
    unfold d_x8_kindWord_100
    rw [if_neg (by decide)]
    unfold d_x8_kindWord_119
    rw [if_neg (by decide)]
    unfold d_x8_kindWord_137
    rw [if_neg (by decide)]
    unfold d_x8_kindWord_157
    rw [if_neg (by decide)]
    unfold d_x8_kindWord_176
    rw [if_neg (by decide)]
    unfold d_x8_kindWord_195
    rw [if_neg (by decide)]
    unfold d_x8_kindWord_214
    rw [if_neg (by decide)]
    unfold d_x8_kindWord_234
    rw [if_neg (by decide)]
    unfold d_x8_kindWord_253
    rw [if_neg (by decide)]
  · rw [if_neg (show ¬ T 19 p = 0 by omega), e, if_neg (by decide)]
    have e2 : nz 108 ++ nz 105 ++ nz 115 ++ nz 116 ++ nz 0 = tl (2 : Int).toNat := by decide +kernel
    unfold d_x8_kindWord_29
    rw [if_neg (by decide)]
    unfold d_x8_kindWord_47
    rw [if_pos (by decide), e_wd ⟨hl _ (by decide), by decide⟩ (hl _ (by decide)) (hl _ (by decide)) (hl _ (by decide)) (hl _ (by decide)) h.2 (by omega), bV_some, e2]
    unfold d_x8_kindWord_65
    rw [if_neg (by decide)]
    unfold d_x8_kindWord_82
    rw [if_neg (by decide)]
    unfold d_x8_kindWord_100
    rw [if_neg (by decide)]
    unfold d_x8_kindWord_119
    rw [if_neg (by decide)]
    unfold d_x8_kindWord_137
    rw [if_neg (by decide)]
    unfold d_x8_kindWord_157
    rw [if_neg (by decide)]
    unfold d_x8_kindWord_176
    rw [if_neg (by decide)]
    unfold d_x8_kindWord_195
    rw [if_neg (by decide)]
    unfold d_x8_kindWord_214
    rw [if_neg (by decide)]
    unfold d_x8_kindWord_234
    rw [if_neg (by decide)]
    unfold d_x8_kindWord_253
    rw [if_neg (by decide)]
  · rw [if_neg (show ¬ T 19 p = 0 by omega), e, if_neg (by decide)]
    have e2 : nz 109 ++ nz 97 ++ nz 112 ++ nz 0 ++ nz 0 = tl (3 : Int).toNat := by decide +kernel
    unfold d_x8_kindWord_29
    rw [if_neg (by decide)]
    unfold d_x8_kindWord_47
    rw [if_neg (by decide)]
    unfold d_x8_kindWord_65
    rw [if_pos (by decide), e_wd ⟨hl _ (by decide), by decide⟩ (hl _ (by decide)) (hl _ (by decide)) (hl _ (by decide)) (hl _ (by decide)) h.2 (by omega), bV_some, e2]
    unfold d_x8_kindWord_82
    rw [if_neg (by decide)]
    unfold d_x8_kindWord_100
    rw [if_neg (by decide)]
    unfold d_x8_kindWord_119
    rw [if_neg (by decide)]
    unfold d_x8_kindWord_137
    rw [if_neg (by decide)]
    unfold d_x8_kindWord_157
    rw [if_neg (by decide)]
    unfold d_x8_kindWord_176
    rw [if_neg (by decide)]
    unfold d_x8_kindWord_195
    rw [if_neg (by decide)]
    unfold d_x8_kindWord_214
    rw [if_neg (by decide)]
    unfold d_x8_kindWord_234
    rw [if_neg (by decide)]
    unfold d_x8_kindWord_253
    rw [if_neg (by decide)]
  · rw [if_neg (show ¬ T 19 p = 0 by omega), e, if_neg (by decide)]
    have e2 : nz 107 ++ nz 101 ++ nz 101 ++ nz 112 ++ nz 0 = tl (4 : Int).toNat := by decide +kernel
    unfold d_x8_kindWord_29
    rw [if_neg (by decide)]
    unfold d_x8_kindWord_47
    rw [if_neg (by decide)]
    unfold d_x8_kindWord_65
    rw [if_neg (by decide)]
    unfold d_x8_kindWord_82
    rw [if_pos (by decide), e_wd ⟨hl _ (by decide), by decide⟩ (hl _ (by decide)) (hl _ (by decide)) (hl _ (by decide)) (hl _ (by decide)) h.2 (by omega), bV_some, e2]
    unfold d_x8_kindWord_100
    rw [if_neg (by decide)]
    unfold d_x8_kindWord_119
    rw [if_neg (by decide)]
    unfold d_x8_kindWord_137
    rw [if_neg (by decide)]
    unfold d_x8_kindWord_157
    rw [if_neg (by decide)]
    unfold d_x8_kindWord_176
    rw [if_neg (by decide)]
    unfold d_x8_kindWord_195
    rw [if_neg (by decide)]
    unfold d_x8_kindWord_214
    rw [if_neg (by decide)]
    unfold d_x8_kindWord_234
    rw [if_neg (by decide)]
    unfold d_x8_kindWord_253
    rw [if_neg (by decide)]
  · rw [if_neg (show ¬ T 19 p = 0 by omega), e, if_neg (by decide)]
    have e2 : nz 119 ++ nz 104 ++ nz 105 ++ nz 108 ++ nz 101 = tl (5 : Int).toNat := by decide +kernel
    unfold d_x8_kindWord_29
    rw [if_neg (by decide)]
    unfold d_x8_kindWord_47
    rw [if_neg (by decide)]
    unfold d_x8_kindWord_65
    rw [if_neg (by decide)]
    unfold d_x8_kindWord_82
    rw [if_neg (by decide)]
    unfold d_x8_kindWord_100
    rw [if_pos (by decide), e_wd ⟨hl _ (by decide), by decide⟩ (hl _ (by decide)) (hl _ (by decide)) (hl _ (by decide)) (hl _ (by decide)) h.2 (by omega), bV_some, e2]
    unfold d_x8_kindWord_119
    rw [if_neg (by decide)]
    unfold d_x8_kindWord_137
    rw [if_neg (by decide)]
    unfold d_x8_kindWord_157
    rw [if_neg (by decide)]
    unfold d_x8_kindWord_176
    rw [if_neg (by decide)]
    unfold d_x8_kindWord_195
    rw [if_neg (by decide)]
    unfold d_x8_kindWord_214
    rw [if_neg (by decide)]
    unfold d_x8_kindWord_234
    rw [if_neg (by decide)]
    unfold d_x8_kindWord_253
    rw [if_neg (by decide)]
  · rw [if_neg (show ¬ T 19 p = 0 by omega), e, if_neg (by decide)]
    have e2 : nz 122 ++ nz 105 ++ nz 112 ++ nz 0 ++ nz 0 = tl (6 : Int).toNat := by decide +kernel
    unfold d_x8_kindWord_29
    rw [if_neg (by decide)]
    unfold d_x8_kindWord_47
    rw [if_neg (by decide)]
    unfold d_x8_kindWord_65
    rw [if_neg (by decide)]
    unfold d_x8_kindWord_82
    rw [if_neg (by decide)]
    unfold d_x8_kindWord_100
    rw [if_neg (by decide)]
    unfold d_x8_kindWord_119
    rw [if_pos (by decide), e_wd ⟨hl _ (by decide), by decide⟩ (hl _ (by decide)) (hl _ (by decide)) (hl _ (by decide)) (hl _ (by decide)) h.2 (by omega), bV_some, e2]
    unfold d_x8_kindWord_137
    rw [if_neg (by decide)]
    unfold d_x8_kindWord_157
    rw [if_neg (by decide)]
    unfold d_x8_kindWord_176
    rw [if_neg (by decide)]
    unfold d_x8_kindWord_195
    rw [if_neg (by decide)]
    unfold d_x8_kindWord_214
    rw [if_neg (by decide)]
    unfold d_x8_kindWord_234
    rw [if_neg (by decide)]
    unfold d_x8_kindWord_253
    rw [if_neg (by decide)]
  · rw [if_neg (show ¬ T 19 p = 0 by omega), e, if_neg (by decide)]
    have e2 : nz 109 ++ nz 101 ++ nz 114 ++ nz 103 ++ nz 101 = tl (7 : Int).toNat := by decide +kernel
    unfold d_x8_kindWord_29
    rw [if_neg (by decide)]
    unfold d_x8_kindWord_47
    rw [if_neg (by decide)]
    unfold d_x8_kindWord_65
    rw [if_neg (by decide)]
    unfold d_x8_kindWord_82
    rw [if_neg (by decide)]
    unfold d_x8_kindWord_100
    rw [if_neg (by decide)]
    unfold d_x8_kindWord_119
    rw [if_neg (by decide)]
    unfold d_x8_kindWord_137
    rw [if_pos (by decide), e_wd ⟨hl _ (by decide), by decide⟩ (hl _ (by decide)) (hl _ (by decide)) (hl _ (by decide)) (hl _ (by decide)) h.2 (by omega), bV_some, e2]
    unfold d_x8_kindWord_157
    rw [if_neg (by decide)]
    unfold d_x8_kindWord_176
    rw [if_neg (by decide)]
    unfold d_x8_kindWord_195
    rw [if_neg (by decide)]
    unfold d_x8_kindWord_214
    rw [if_neg (by decide)]
    unfold d_x8_kindWord_234
    rw [if_neg (by decide)]
    unfold d_x8_kindWord_253
    rw [if_neg (by decide)]
  · rw [if_neg (show ¬ T 19 p = 0 by omega), e, if_neg (by decide)]
    have e2 : nz 116 ++ nz 97 ++ nz 107 ++ nz 101 ++ nz 0 = tl (8 : Int).toNat := by decide +kernel
    unfold d_x8_kindWord_29
    rw [if_neg (by decide)]
    unfold d_x8_kindWord_47
    rw [if_neg (by decide)]
    unfold d_x8_kindWord_65
    rw [if_neg (by decide)]
    unfold d_x8_kindWord_82
    rw [if_neg (by decide)]
    unfold d_x8_kindWord_100
    rw [if_neg (by decide)]
    unfold d_x8_kindWord_119
    rw [if_neg (by decide)]
    unfold d_x8_kindWord_137
    rw [if_neg (by decide)]
    unfold d_x8_kindWord_157
    rw [if_pos (by decide), e_wd ⟨hl _ (by decide), by decide⟩ (hl _ (by decide)) (hl _ (by decide)) (hl _ (by decide)) (hl _ (by decide)) h.2 (by omega), bV_some, e2]
    unfold d_x8_kindWord_176
    rw [if_neg (by decide)]
    unfold d_x8_kindWord_195
    rw [if_neg (by decide)]
    unfold d_x8_kindWord_214
    rw [if_neg (by decide)]
    unfold d_x8_kindWord_234
    rw [if_neg (by decide)]
    unfold d_x8_kindWord_253
    rw [if_neg (by decide)]
  · rw [if_neg (show ¬ T 19 p = 0 by omega), e, if_neg (by decide)]
    have e2 : nz 100 ++ nz 114 ++ nz 111 ++ nz 112 ++ nz 0 = tl (9 : Int).toNat := by decide +kernel
    unfold d_x8_kindWord_29
    rw [if_neg (by decide)]
    unfold d_x8_kindWord_47
    rw [if_neg (by decide)]
    unfold d_x8_kindWord_65
    rw [if_neg (by decide)]
    unfold d_x8_kindWord_82
    rw [if_neg (by decide)]
    unfold d_x8_kindWord_100
    rw [if_neg (by decide)]
    unfold d_x8_kindWord_119
    rw [if_neg (by decide)]
    unfold d_x8_kindWord_137
    rw [if_neg (by decide)]
    unfold d_x8_kindWord_157
    rw [if_neg (by decide)]
    unfold d_x8_kindWord_176
    rw [if_pos (by decide), e_wd ⟨hl _ (by decide), by decide⟩ (hl _ (by decide)) (hl _ (by decide)) (hl _ (by decide)) (hl _ (by decide)) h.2 (by omega), bV_some, e2]
    unfold d_x8_kindWord_195
    rw [if_neg (by decide)]
    unfold d_x8_kindWord_214
    rw [if_neg (by decide)]
    unfold d_x8_kindWord_234
    rw [if_neg (by decide)]
    unfold d_x8_kindWord_253
    rw [if_neg (by decide)]
  · rw [if_neg (show ¬ T 19 p = 0 by omega), e, if_neg (by decide)]
    have e2 : nz 115 ++ nz 99 ++ nz 97 ++ nz 110 ++ nz 0 = tl (10 : Int).toNat := by decide +kernel
    unfold d_x8_kindWord_29
    rw [if_neg (by decide)]
    unfold d_x8_kindWord_47
    rw [if_neg (by decide)]
    unfold d_x8_kindWord_65
    rw [if_neg (by decide)]
    unfold d_x8_kindWord_82
    rw [if_neg (by decide)]
    unfold d_x8_kindWord_100
    rw [if_neg (by decide)]
    unfold d_x8_kindWord_119
    rw [if_neg (by decide)]
    unfold d_x8_kindWord_137
    rw [if_neg (by decide)]
    unfold d_x8_kindWord_157
    rw [if_neg (by decide)]
    unfold d_x8_kindWord_176
    rw [if_neg (by decide)]
    unfold d_x8_kindWord_195
    rw [if_pos (by decide), e_wd ⟨hl _ (by decide), by decide⟩ (hl _ (by decide)) (hl _ (by decide)) (hl _ (by decide)) (hl _ (by decide)) h.2 (by omega), bV_some, e2]
    unfold d_x8_kindWord_214
    rw [if_neg (by decide)]
    unfold d_x8_kindWord_234
    rw [if_neg (by decide)]
    unfold d_x8_kindWord_253
    rw [if_neg (by decide)]
  · rw [if_neg (show ¬ T 19 p = 0 by omega), e, if_neg (by decide)]
    have e2 : nz 115 ++ nz 105 ++ nz 101 ++ nz 118 ++ nz 101 = tl (11 : Int).toNat := by decide +kernel
    unfold d_x8_kindWord_29
    rw [if_neg (by decide)]
    unfold d_x8_kindWord_47
    rw [if_neg (by decide)]
    unfold d_x8_kindWord_65
    rw [if_neg (by decide)]
    unfold d_x8_kindWord_82
    rw [if_neg (by decide)]
    unfold d_x8_kindWord_100
    rw [if_neg (by decide)]
    unfold d_x8_kindWord_119
    rw [if_neg (by decide)]
    unfold d_x8_kindWord_137
    rw [if_neg (by decide)]
    unfold d_x8_kindWord_157
    rw [if_neg (by decide)]
    unfold d_x8_kindWord_176
    rw [if_neg (by decide)]
    unfold d_x8_kindWord_195
    rw [if_neg (by decide)]
    unfold d_x8_kindWord_214
    rw [if_pos (by decide), e_wd ⟨hl _ (by decide), by decide⟩ (hl _ (by decide)) (hl _ (by decide)) (hl _ (by decide)) (hl _ (by decide)) h.2 (by omega), bV_some, e2]
    unfold d_x8_kindWord_234
    rw [if_neg (by decide)]
    unfold d_x8_kindWord_253
    rw [if_neg (by decide)]
  · rw [if_neg (show ¬ T 19 p = 0 by omega), e, if_neg (by decide)]
    have e2 : nz 99 ++ nz 111 ++ nz 110 ++ nz 115 ++ nz 0 = tl (12 : Int).toNat := by decide +kernel
    unfold d_x8_kindWord_29
    rw [if_neg (by decide)]
    unfold d_x8_kindWord_47
    rw [if_neg (by decide)]
    unfold d_x8_kindWord_65
    rw [if_neg (by decide)]
    unfold d_x8_kindWord_82
    rw [if_neg (by decide)]
    unfold d_x8_kindWord_100
    rw [if_neg (by decide)]
    unfold d_x8_kindWord_119
    rw [if_neg (by decide)]
    unfold d_x8_kindWord_137
    rw [if_neg (by decide)]
    unfold d_x8_kindWord_157
    rw [if_neg (by decide)]
    unfold d_x8_kindWord_176
    rw [if_neg (by decide)]
    unfold d_x8_kindWord_195
    rw [if_neg (by decide)]
    unfold d_x8_kindWord_214
    rw [if_neg (by decide)]
    unfold d_x8_kindWord_234
    rw [if_pos (by decide), e_wd ⟨hl _ (by decide), by decide⟩ (hl _ (by decide)) (hl _ (by decide)) (hl _ (by decide)) (hl _ (by decide)) h.2 (by omega), bV_some, e2]
    unfold d_x8_kindWord_253
    rw [if_neg (by decide)]
  · rw [if_neg (show ¬ T 19 p = 0 by omega), e, if_neg (by decide)]
    have e2 : nz 99 ++ nz 117 ++ nz 116 ++ nz 0 ++ nz 0 = tl (13 : Int).toNat := by decide +kernel
    unfold d_x8_kindWord_29
    rw [if_neg (by decide)]
    unfold d_x8_kindWord_47
    rw [if_neg (by decide)]
    unfold d_x8_kindWord_65
    rw [if_neg (by decide)]
    unfold d_x8_kindWord_82
    rw [if_neg (by decide)]
    unfold d_x8_kindWord_100
    rw [if_neg (by decide)]
    unfold d_x8_kindWord_119
    rw [if_neg (by decide)]
    unfold d_x8_kindWord_137
    rw [if_neg (by decide)]
    unfold d_x8_kindWord_157
    rw [if_neg (by decide)]
    unfold d_x8_kindWord_176
    rw [if_neg (by decide)]
    unfold d_x8_kindWord_195
    rw [if_neg (by decide)]
    unfold d_x8_kindWord_214
    rw [if_neg (by decide)]
    unfold d_x8_kindWord_234
    rw [if_neg (by decide)]
    unfold d_x8_kindWord_253
    rw [if_pos (by decide), e_wd ⟨hl _ (by decide), by decide⟩ (hl _ (by decide)) (hl _ (by decide)) (hl _ (by decide)) (hl _ (by decide)) h.2 (by omega), bV_some, e2]
