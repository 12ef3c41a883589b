theorem ch_ok : ∀ x : Fin 256, c16 ((x.val : Nat) : Int) = ((x.val : Nat) : Int) ∧ w8 ((x.val : Nat) : Int) = (if x.val < 128 then ((x.val : Nat) : Int) else ((x.val : Nat) : Int) - 256) := by decide +kernel
theorem chx {x : Int} (h : 0 ≤ x ∧ x ≤ 255) : c16 x = x ∧ w8 x = (if x < 128 then x else x - 256) := by
  have k := ch_ok ⟨x.toNat, by omega⟩
  have e : ((x.toNat : Nat) : Int) = x := by omega
  have k1 : c16 ((x.toNat : Nat) : Int) = ((x.toNat : Nat) : Int) := k.1
  have k2 : w8 ((x.toNat : Nat) : Int) = (if x.toNat < 128 then ((x.toNat : Nat) : Int) else ((x.toNat : Nat) : Int) - 256) := k.2
  rw [e] at k1 k2
  refine ⟨k1, ?_⟩
  rw [k2]
  by_cases z : x < 128
  · rw [if_pos z, if_pos (by omega)]
  · rw [if_neg z, if_neg (by omega)]
theorem gd_mem {L : List Int} {x : Int} : x ∈ L ↔ ∃ l, l < L.length ∧ L.getD l 0 = x := by
  constructor
  · intro h
    obtain ⟨l, hl, e⟩ := List.getElem_of_mem h
    exact ⟨l, hl, by rw [List.getD_eq_getElem?_getD, List.getElem?_eq_getElem hl]; exact e⟩
  · rintro ⟨l, hl, e⟩
    rw [← e, List.getD_eq_getElem?_getD, List.getElem?_eq_getElem hl]
    exact List.getElem_mem hl
/-- where a sign stands in a text of the class -/
theorem e_idx {N i : Nat} (hN : 100 ≤ N) (hi : i < 25) {s : St} {x : Int} (hx : 0 ≤ x ∧ x ≤ 255) : ∃ v, d_j0_indexOf_0f7a4 N s (2 * i + 1) (c16 x) = some (s, v) ∧ (v < 0 ↔ ¬ x ∈ tl i) ∧ -1 ≤ v ∧ v ≤ 9 := by
  obtain ⟨ec, ew⟩ := chx hx
  have ok : (tl i).length ≤ 9 ∧ (tl i).all (fun x => decide (0 ≤ x ∧ x < 128)) = true := tl_ok ⟨i, hi⟩
  have hl := ok.1
  have h1 : ¬ (2 * i + 1 = 1000) := by omega
  have h2 : (2 * i + 1) % 2 = 1 ∧ (2 * i + 1) / 2 < 25 := by omega
  have h3 : (2 * i + 1) / 2 = i := by omega
  have h2' : (2 * i + 1) % 2 = 1 ∧ i < 25 := by omega
  have h4 : bOk (2 * i + 2) := by unfold bOk; omega
  have h5 : bLen (2 * i + 2) = (tl i).length := by
    unfold bLen tl
    rw [show (2 * i + 2) / 2 - 1 = i by omega, List.length_map]
  have hb : ∀ j, bAt (2 * i + 2) j = (tl i).getD j 0 := fun j => by
    unfold bAt tl
    rw [show (2 * i + 2) / 2 - 1 = i by omega]
    exact gd_map _ j
  have hr : ∀ j, j < (tl i).length → 0 ≤ (tl i).getD j 0 ∧ (tl i).getD j 0 < 128 := fun j hj => by
    have hm : (tl i).getD j 0 ∈ tl i := gd_mem.mpr ⟨j, hj, rfl⟩
    exact of_decide_eq_true (List.all_eq_true.mp ok.2 _ hm)
  have t3 := (tx_all (N := N) hi).2.2.1 s
  have loop : ∀ (k m j : Nat), j + k = (tl i).length → k < m → (∀ l, l < j → (tl i).getD l 0 ≠ x) → ∃ v, d_j1_indexOfChar_4cfef_7L N m s (2 * i + 2) ((tl i).length : Int) (w8 x) (j : Int) = some (s, v) ∧ (v < 0 ↔ ¬ x ∈ tl i) ∧ -1 ≤ v ∧ v ≤ 9 := by
    intro k
    induction k with
    | zero =>
      intro m j hj hm hp
      obtain ⟨m, rfl⟩ : ∃ m', m = m' + 1 := ⟨m - 1, by omega⟩
      show ∃ v, d_j1_indexOfChar_4cfef_7 N (d_j1_indexOfChar_4cfef_7L N m) s (2 * i + 2) ((tl i).length : Int) (w8 x) (j : Int) = some (s, v) ∧ _
      unfold d_j1_indexOfChar_4cfef_7
      have e : (j : Int) = ((tl i).length : Int) := by omega
      rw [e, if_neg (Int.lt_irrefl _)]
      refine ⟨-1, rfl, ⟨fun _ z => ?_, fun _ => by decide⟩, by decide, by decide⟩
      obtain ⟨l, a, b⟩ := gd_mem.mp z
      exact hp l (by omega) b
    | succ k ih =>
      intro m j hj hm hp
      obtain ⟨m, rfl⟩ : ∃ m', m = m' + 1 := ⟨m - 1, by omega⟩
      show ∃ v, d_j1_indexOfChar_4cfef_7 N (d_j1_indexOfChar_4cfef_7L N m) s (2 * i + 2) ((tl i).length : Int) (w8 x) (j : Int) = some (s, v) ∧ _
      unfold d_j1_indexOfChar_4cfef_7
      have g := hr j (by omega)
      rw [w32i (x := (j : Int)) (by omega) (by omega), w32i (x := ((tl i).length : Int)) (by omega) (by omega), if_pos (by omega), if_neg (by omega), h5, if_pos ⟨h4, by omega, by omega⟩, Int.toNat_natCast, hb, w32i (x := (tl i).getD j 0) (by omega) (by omega), ew]
      by_cases z : x < 128
      · rw [if_pos z, w32i (x := x) (by omega) (by omega)]
        by_cases y : (tl i).getD j 0 = x
        · rw [if_pos y]
          refine ⟨_, rfl, ⟨fun w => ?_, fun w => absurd (gd_mem.mpr ⟨j, by omega, y⟩) w⟩, by omega, by omega⟩
          omega
        · rw [if_neg y, bd_eq]
          have I := ih m (j + 1) (by omega) (by omega) (fun l hl => by
            by_cases q : l = j
            · rw [q]; exact y
            · exact hp l (by omega))
          rw [ew, if_pos z] at I
          exact I
      · rw [if_neg z, w32i (x := x - 256) (by omega) (by omega), if_neg (by omega), bd_eq]
        have I := ih m (j + 1) (by omega) (by omega) (fun l hl => by
            by_cases q : l = j
            · rw [q]; omega
            · exact hp l (by omega))
        rw [ew, if_neg z] at I
        exact I
  obtain ⟨v, e1, e2⟩ := loop (tl i).length N 0 (by omega) (by omega) (fun l hl => by omega)
  refine ⟨v, ?_, e2⟩
  have ce : d_j1_canEncode_9a6ad N s x = some (s, 1) := by
    unfold d_j1_canEncode_9a6ad
    rw [w32i (x := x) (by omega) (by omega), if_neg (by omega), if_neg (by omega)]
  have ci : d_j1_indexOfChar_4cfef N s (2 * i + 2) x 0 ((tl i).length : Int) = some (s, v) := by
    unfold d_j1_indexOfChar_4cfef
    rw [bd_eq]
    exact e1
  have z0 : (if w32 (0 : Int) < 0 then (0 : Int) else 0) = 0 := if_neg (by decide)
  have cx : d_j1_indexOf_4cfef N s (2 * i + 2) x 0 ((tl i).length : Int) = some (s, v) := by
    unfold d_j1_indexOf_4cfef
    rw [ce, bI_some, w32_1, if_neg (by decide), z0, bd_eq, if_neg (show ¬ 2 * i + 2 = 1000 by omega), if_pos h4, h5, if_neg (Int.lt_irrefl _), bd_eq, w32_0, w32i (x := ((tl i).length : Int)) (by omega) (by omega)]
    by_cases hz : (tl i).length = 0
    · have hv : v = -1 := by
        have q : ¬ x ∈ tl i := fun q => by
          obtain ⟨l, a, b⟩ := gd_mem.mp q
          omega
        have := e2.1.mpr q
        omega
      rw [if_neg (by omega), hv]
    · rw [if_pos (by omega), if_neg (show ¬ 2 * i + 2 = 1000 by omega), ci, bI_some]
  have la : d_j0_isLatin1_aae02 N s (2 * i + 1) = some (s, 1) := by
    unfold d_j0_isLatin1_aae02
    rw [if_neg h1, h3, if_pos h2']
  unfold d_j0_indexOf_0f7a4 d_j0_indexOf_7cf53
  rw [ec, la, bI_some, t3, bI_some, h3, bI_some, cx, bI_some, w32_1, if_neg (show ¬ (1 : Int) = 0 by decide), if_neg h1, if_pos h2', if_neg h1, if_pos h2', if_neg h1, if_pos h2', if_neg h1, if_pos h2', bI_some]
/-- the sort of a byte -/
def so (x : Int) : Int := if x = 32 ∨ x = 10 then 5 else if 97 ≤ x ∧ x ≤ 122 then 1 else if 48 ≤ x ∧ x ≤ 57 then 2 else if x = 43 ∨ x = 45 ∨ x = 42 ∨ x = 47 ∨ x = 37 ∨ x = 60 ∨ x = 62 ∨ x = 61 ∨ x = 44 then 3 else 4
theorem so_r (x : Int) : 1 ≤ so x ∧ so x ≤ 5 := by
  unfold so
  split
  · decide
  · split
    · decide
    · split
      · decide
      · split <;> decide
theorem tl0 : ∀ x : Fin 256, (((x.val : Nat) : Int) ∈ tl 0 ↔ (x.val = 43 ∨ x.val = 45 ∨ x.val = 42 ∨ x.val = 47 ∨ x.val = 37 ∨ x.val = 60 ∨ x.val = 62 ∨ x.val = 61 ∨ x.val = 44)) := by decide +kernel
theorem tl23 : ∀ x : Fin 256, (((x.val : Nat) : Int) ∈ tl 23 ↔ (x.val = 43 ∨ x.val = 45 ∨ x.val = 42 ∨ x.val = 47 ∨ x.val = 37)) := by decide +kernel
theorem tl24 : ∀ x : Fin 256, (((x.val : Nat) : Int) ∈ tl 24 ↔ (x.val = 60 ∨ x.val = 62 ∨ x.val = 61 ∨ x.val = 37)) := by decide +kernel
theorem e_sort {N : Nat} (hN : 100 ≤ N) {s : St} {x : Int} (hx : 0 ≤ x ∧ x ≤ 255) : d_x2_sortOf N s x = some (s, so x) := by
  unfold d_x2_sortOf d_x2_sortOf_28 d_x2_sortOf_42 so
  rw [w32i (x := x) (by omega) (by omega)]
  obtain ⟨v, e1, e2, e3, e4⟩ := e_idx (N := N) (i := 0) hN (by decide) (s := s) hx
  have e1' : d_j0_indexOf_0f7a4 N s (2 * 0 + 1) (c16 x) = some (s, v) := e1
  have m := tl0 ⟨x.toNat, by omega⟩
  have e0 : ((x.toNat : Nat) : Int) = x := by omega
  have m' : (x ∈ tl 0 ↔ (x.toNat = 43 ∨ x.toNat = 45 ∨ x.toNat = 42 ∨ x.toNat = 47 ∨ x.toNat = 37 ∨ x.toNat = 60 ∨ x.toNat = 62 ∨ x.toNat = 61 ∨ x.toNat = 44)) := by rw [← e0]; exact m
  have sg : (if (2 * 0 + 1) % 2 = 1 ∧ (2 * 0 + 1) / 2 < 25 then bI (d_j0_indexOf_0f7a4 N s (2 * 0 + 1) (c16 x)) fun s1 v2 => (if (w32 v2) < 0 then some (s1, 4) else some (s1, 3)) else none) = some (s, if x = 43 ∨ x = 45 ∨ x = 42 ∨ x = 47 ∨ x = 37 ∨ x = 60 ∨ x = 62 ∨ x = 61 ∨ x = 44 then 3 else 4) := by
    rw [if_pos (by decide), e1', bI_some, w32i (x := v) (by omega) (by omega)]
    by_cases z : v < 0
    · have := e2.mp z
      rw [if_pos z, if_neg (fun q => this (m'.mpr (by omega)))]
    · have : x ∈ tl 0 := Classical.byContradiction (fun q => z (e2.mpr q))
      have := m'.mp this
      rw [if_neg z, if_pos (by omega)]
  by_cases a1 : x = 32
  · rw [if_pos a1, if_pos (Or.inl a1)]
  · rw [if_neg a1]
    by_cases a2 : x = 10
    · rw [if_pos a2, if_pos (Or.inr a2)]
    · rw [if_neg a2, if_neg (show ¬ (x = 32 ∨ x = 10) by omega), sg]
      by_cases a3 : x < 97
      · rw [if_pos a3, if_neg (show ¬ (97 ≤ x ∧ x ≤ 122) by omega)]
        by_cases a4 : x < 48
        · rw [if_pos a4, if_neg (show ¬ (48 ≤ x ∧ x ≤ 57) by omega)]
        · rw [if_neg a4]
          by_cases a5 : 57 < x
          · rw [if_pos a5, if_neg (show ¬ (48 ≤ x ∧ x ≤ 57) by omega)]
          · rw [if_neg a5, if_pos (show 48 ≤ x ∧ x ≤ 57 by omega)]
      · rw [if_neg a3]
        by_cases a6 : 122 < x
        · rw [if_pos a6, if_neg (show ¬ (97 ≤ x ∧ x ≤ 122) by omega), if_neg (show ¬ x < 48 by omega), if_pos (show 57 < x by omega), if_neg (show ¬ (48 ≤ x ∧ x ≤ 57) by omega)]
        · rw [if_neg a6, if_pos (show 97 ≤ x ∧ x ≤ 122 by omega)]
