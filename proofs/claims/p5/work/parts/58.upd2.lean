/-- a mark is set -/
theorem U_mark {t : Nat} {T c r c' r' : St} (h2 : t = 26 ∨ t = 38) (H : TI t T c r) {p i : Nat} (hp : p < 192) (hi : i < 64) (hm : c (t + 10) p = 1)
    (ec : ∀ a k, ¬ (a = t + 7 ∧ k = 64 * p + i) → ¬ (a = t + 8 ∧ k = 64 * p + i) → ¬ (a = t + 2 ∧ k = p) → c' a k = c a k)
    (er : ∀ a k, ¬ (a = 91 ∧ k = 64 * p + i) → ¬ (a = 92 ∧ k = 64 * p + i) → r' a k = r a k)
    (e1 : r' 91 (64 * p + i) = c' (t + 7) (64 * p + i)) (e2 : c' (t + 7) (64 * p + i) = 0 ∨ c' (t + 7) (64 * p + i) = 1 ∨ c' (t + 7) (64 * p + i) = 2 ∨ (-24 ≤ c' (t + 7) (64 * p + i) ∧ c' (t + 7) (64 * p + i) ≤ -21))
    (e3 : c' (t + 7) (64 * p + i) ≠ 0 → (i : Int) < c (t + 1) p) (e4 : c' (t + 7) (64 * p + i) = 1 → r' 92 (64 * p + i) = c' (t + 8) (64 * p + i))
    (e5 : c' (t + 2) p + (if c (t + 7) (64 * p + i) = 0 ∨ c (t + 7) (64 * p + i) = 2 then 0 else 1) = c (t + 2) p + (if c' (t + 7) (64 * p + i) = 0 ∨ c' (t + 7) (64 * p + i) = 2 then 0 else 1)) : TI t T c' r' := by
  have n1 := fun k => ec (t + 1) k (by omega) (by omega) (by omega)
  have n3 := fun k => ec (t + 3) k (by omega) (by omega) (by omega)
  have n4 := fun k => ec (t + 4) k (by omega) (by omega) (by omega)
  have n5 := fun k => ec (t + 5) k (by omega) (by omega) (by omega)
  have n6 := fun k => ec (t + 6) k (by omega) (by omega) (by omega)
  have n9 := fun k => ec (t + 9) k (by omega) (by omega) (by omega)
  have m6 := fun k => er 86 k (by omega) (by omega)
  have m7 := fun k => er 87 k (by omega) (by omega)
  have m8 := fun k => er 88 k (by omega) (by omega)
  have m9 := fun k => er 89 k (by omega) (by omega)
  have m0 := fun k => er 90 k (by omega) (by omega)
  have m3 := fun k => er 93 k (by omega) (by omega)
  refine ⟨⟨H.W, fun a k _ _ => (ec a k (by omega) (by omega) (by omega)).trans (H.ct a k (by omega) (by omega)), fun a k _ _ => (er a k (by omega) (by omega)).trans (H.rt a k (by omega) (by omega))⟩, ?_, H.T.upd hm (fun k => ec _ k (by omega) (by omega) (by omega)) (fun k => ec _ k (by omega) (by omega) (by omega)) (fun k => ec _ k (by omega) (by omega) (by omega)) (fun j q _ _ h => ec _ _ (by omega) (by omega) (by omega)), ?_, ?_, ?_, ?_, ?_, ?_⟩
  · have h := H.R
    unfold TR at *
    rw [ec 50 1 (by omega) (by omega) (by omega), ec 50 2 (by omega) (by omega) (by omega), ec 50 3 (by omega) (by omega) (by omega), er 77 37 (by omega) (by omega), er 77 36 (by omega) (by omega)]
    exact h
  · intro q hq
    have h := H.P hq
    unfold TP at *
    simp only [n1, n3, n4, m6, m7, m8]
    exact h
  · intro q j hq hj
    have h := H.M hq hj
    by_cases e : q = p ∧ j = i
    · obtain ⟨rfl, rfl⟩ := e
      unfold TM
      rw [n1]
      exact ⟨e1, e2, e3, e4⟩
    · unfold TM at *
      rw [n1, ec (t + 7) (64 * q + j) (by omega) (by omega) (by omega), ec (t + 8) (64 * q + j) (by omega) (by omega) (by omega), er 91 (64 * q + j) (by omega) (by omega), er 92 (64 * q + j) (by omega) (by omega)]
      exact h
  · intro q hq
    have h := H.N hq
    unfold TN NX at *
    simp only [n1, n4, n5, n6, n9, m9, m0]
    exact h
  · intro q j hq hj
    rw [n1] at hj
    have h := H.K hq hj
    unfold KP SO Td at *
    simp only [n1, n9, m3]
    exact h
  · intro q hq
    have h := H.H hq
    unfold HC at *
    by_cases e : q = p
    · subst e
      have := cn_set (f := fun j => c' (t + 7) (64 * q + j)) (g := fun j => c (t + 7) (64 * q + j)) (a := i) 64 hi (fun j hj hne => ec _ _ (by omega) (by omega) (by omega))
      omega
    · rw [ec (t + 2) q (by omega) (by omega) (by omega), h]
      exact cn_congr 64 (fun j hj => (ec _ _ (by omega) (by omega) (by omega)).symm)
  · have h := H.B
    unfold KB at *
    simp only [n9]
    exact h
/-- what is kept is set -/
theorem U_kept {t : Nat} {T c r c' r' : St} (h2 : t = 26 ∨ t = 38) (H : TI t T c r) {p i : Nat} (hp : p < 192) (hi : i < 64) (hm : c (t + 4) p = 1) (hi2 : c (t + 1) p = i)
    (ec : ∀ a k, ¬ (a = t + 9 ∧ k = 64 * p + i) → ¬ (a = t + 5 ∧ k = p) → ¬ (a = t + 6 ∧ k = p) → c' a k = c a k)
    (er : ∀ a k, ¬ (a = 93 ∧ k = 64 * p + i) → ¬ (a = 89 ∧ k = p) → ¬ (a = 90 ∧ k = p) → r' a k = r a k)
    (e1 : -128 ≤ c' (t + 9) (64 * p + i) ∧ c' (t + 9) (64 * p + i) ≤ 127)
    (e2 : T 19 p = 7 → r' 89 p = c' (t + 5) p ∧ r' 90 p = c' (t + 6) p ∧ 0 ≤ c' (t + 5) p ∧ c' (t + 5) p ≤ 64 ∧ 0 ≤ c' (t + 6) p ∧ c' (t + 6) p ≤ 64) : TI t T c' r' ∧ Mo t p c c' ∧ Fm r r' := by
  have n1 := fun k => ec (t + 1) k (by omega) (by omega) (by omega)
  have n2 := fun k => ec (t + 2) k (by omega) (by omega) (by omega)
  have n3 := fun k => ec (t + 3) k (by omega) (by omega) (by omega)
  have n4 := fun k => ec (t + 4) k (by omega) (by omega) (by omega)
  have n7 := fun k => ec (t + 7) k (by omega) (by omega) (by omega)
  have n8 := fun k => ec (t + 8) k (by omega) (by omega) (by omega)
  have m6 := fun k => er 86 k (by omega) (by omega) (by omega)
  have m7 := fun k => er 87 k (by omega) (by omega) (by omega)
  have m8 := fun k => er 88 k (by omega) (by omega) (by omega)
  have m1 := fun k => er 91 k (by omega) (by omega) (by omega)
  have m2 := fun k => er 92 k (by omega) (by omega) (by omega)
  have hmet := H.met hp (Or.inl hm)
  refine ⟨⟨⟨H.W, fun a k _ _ => (ec a k (by omega) (by omega) (by omega)).trans (H.ct a k (by omega) (by omega)), fun a k _ _ => (er a k (by omega) (by omega) (by omega)).trans (H.rt a k (by omega) (by omega))⟩, ?_, H.T.upd hmet (fun k => ec _ k (by omega) (by omega) (by omega)) (fun k => ec _ k (by omega) (by omega) (by omega)) (fun k => ec _ k (by omega) (by omega) (by omega)) (fun j q _ _ h => ec _ _ (by omega) (by omega) (by omega)), ?_, ?_, ?_, ?_, ?_, ?_⟩, ⟨fun a k _ => ec a k (by omega) (by omega) (by omega), fun k _ _ => ec 50 k (by omega) (by omega) (by omega), ?_, ?_, ?_⟩, ⟨fun a k _ => er a k (by omega) (by omega) (by omega), fun k _ _ => er 77 k (by omega) (by omega) (by omega)⟩⟩
  · have h := H.R
    unfold TR at *
    rw [ec 50 1 (by omega) (by omega) (by omega), ec 50 2 (by omega) (by omega) (by omega), ec 50 3 (by omega) (by omega) (by omega), er 77 37 (by omega) (by omega) (by omega), er 77 36 (by omega) (by omega) (by omega)]
    exact h
  · intro q hq
    have h := H.P hq
    unfold TP at *
    simp only [n1, n3, n4, m6, m7, m8]
    exact h
  · intro q j hq hj
    have h := H.M hq hj
    unfold TM at *
    simp only [n1, n7, n8, m1, m2]
    exact h
  · intro q hq
    have h := H.N hq
    have hq1 := hq.1
    unfold TN NX at *
    rw [n1, n4]
    by_cases e : q = p
    · subst e
      exact ⟨fun z => by omega, e2⟩
    · rw [ec (t + 5) q (by omega) (by omega) (by omega), ec (t + 6) q (by omega) (by omega) (by omega), er 89 q (by omega) (by omega) (by omega), er 90 q (by omega) (by omega) (by omega)]
      refine ⟨fun z y => ⟨(h.1 z y).1, fun j hj => ?_⟩, h.2⟩
      have hpl := H.P hq1
      unfold TP at hpl
      rw [ec (t + 9) (64 * q + j) (by omega) (by omega) (by omega)]
      exact (h.1 z y).2 j hj
  · intro q j hq hj
    rw [n1] at hj
    have h := H.K hq hj
    have hq1 := hq.1
    have hpl := H.P hq1
    unfold TP at hpl
    have hne : ¬ (q = p ∧ j = i) := by
      rintro ⟨rfl, rfl⟩
      omega
    unfold KP SO Td at *
    rw [ec (t + 9) (64 * q + j) (by omega) (by omega) (by omega), er 93 (64 * q + j) (by omega) (by omega) (by omega)]
    simp only [n1]
    exact h
  · intro q hq
    have h := H.H hq
    unfold HC at *
    simp only [n2, n7]
    exact h
  · have h := H.B
    unfold KB at *
    intro k hk
    by_cases e : k = 64 * p + i
    · rw [e]; exact e1
    · rw [ec (t + 9) k (by omega) (by omega) (by omega)]
      exact h k hk
  · rw [ec 50 3 (by omega) (by omega) (by omega)]; exact Int.le_refl _
  · intro q hq
    rw [n1, n4, n3, ec (t + 10) q (by omega) (by omega) (by omega)]
    refine ⟨Int.le_refl _, rfl, fun h => h, fun _ => ⟨rfl, rfl, fun z => ⟨ec _ _ (by omega) (by omega) (by omega), ec _ _ (by omega) (by omega) (by omega)⟩⟩⟩
  · intro q j hq hj
    rw [n7]
    refine ⟨Iff.rfl, fun z => ec _ _ ?_ (by omega) (by omega)⟩
    by_cases e : q = p
    · subst e; omega
    · omega
theorem MT.full {t : Nat} {T c : St} (H : MT t T c) {p : Nat} (hp : p < 192) (hz : c (t + 10) p = 0) : c t 11 < 192 := by
  obtain ⟨M, hM⟩ : ∃ M : Nat, c t 11 = M := ⟨(c t 11).toNat, by have := H.1; omega⟩
  obtain ⟨h1, h2, h3, h4, h5⟩ := H
  by_cases hlt : M < 192
  · omega
  · exfalso
    have hM : c t 11 = 192 := by omega
    have key : ∀ n : Nat, n ≤ 192 → ∀ S : List Nat, S.Nodup → S.length = n → (∀ m ∈ S, m < 192) → (S.map (fun m => (c (t + 11) m).toNat)).Nodup := by
      intro n hn S hS hlen hlt
      rw [List.nodup_iff_pairwise_ne, List.pairwise_map]
      refine List.Pairwise.imp_of_mem ?_ (List.nodup_iff_pairwise_ne.mp hS)
      intro a b ha hb hab he
      have ha := hlt a ha
      have hb := hlt b hb
      have := h3 a (by omega)
      have := h3 b (by omega)
      exact hab (h4 a b (by omega) (by omega) (by omega))
    have k1 := key 192 (by omega) (List.range 192) List.nodup_range List.length_range (fun m h => List.mem_range.mp h)
    have k2 : ((List.range 192).map (fun m => (c (t + 11) m).toNat)) ⊆ (List.range 192).erase p := by
      intro x hx
      obtain ⟨m, hm, rfl⟩ := List.mem_map.mp hx
      have hm := List.mem_range.mp hm
      have := h3 m (by omega)
      refine (List.Nodup.mem_erase_iff List.nodup_range).mpr ⟨?_, List.mem_range.mpr (by omega)⟩
      intro he
      rw [he] at this
      omega
    have k3 := (List.Nodup.length_le_of_subset k1 k2 : _)
    rw [List.length_map, List.length_range, List.length_erase_of_mem (List.mem_range.mpr hp), List.length_range] at k3
    omega
/-- a part is met -/
theorem U_meet {t : Nat} {T c r : St} (h2 : t = 26 ∨ t = 38) (H : TI t T c r) (N : Nat) {p : Nat} (hv : VP T p) : ∃ c', d_x6_meet N t c (p : Int) = some (c', 0) ∧ TI t T c' r ∧ Mo t 192 c c' ∧ c' (t + 10) p = 1 ∧ ∀ a k, a ≠ t → a ≠ t + 10 → a ≠ t + 11 → c' a k = c a k := by
  have hp := hv.1
  unfold d_x6_meet
  obtain ⟨h1, h9, h3, h4, h5⟩ := H.T
  have hf := H.T.full hp
  have hc := h5 p hp
  rw [w32i (x := (p : Int)) (by omega) (by omega), Int.toNat_natCast, if_pos (by omega)]
  rcases hc with z | z
  · have hf := hf z.1
    obtain ⟨M, hM⟩ : ∃ M : Nat, c t 11 = M := ⟨(c t 11).toNat, by omega⟩
    have e1 : up c (t + 10) p 1 t 11 = M := by rw [up_ne (by omega)]; exact hM
    simp only [bd_eq, and11, e1]
    rw [z.1, w32_0, if_pos rfl, hM, w32i (x := (M : Int)) (by omega) (by omega), w32i (x := ((192 : Nat) : Int)) (by omega) (by omega), if_pos (by omega), if_pos (by omega), if_pos (by omega), Int.toNat_natCast, up_ne (s := up c (t + 10) p 1) (by omega), e1]
    have q : ∀ a k, a ≠ t → a ≠ t + 10 → a ≠ t + 11 → up (up (up c (t + 10) p 1) (t + 11) M p) t 11 ((M : Int) + 1) a k = c a k := by
      intro a k y1 y2 y3
      rw [up_ne y1, up_ne y3, up_ne y2]
    have q0 : up (up (up c (t + 10) p 1) (t + 11) M p) t 11 ((M : Int) + 1) t 11 = (M : Int) + 1 := up_same
    have q10 : ∀ k, k ≠ p → up (up (up c (t + 10) p 1) (t + 11) M p) t 11 ((M : Int) + 1) (t + 10) k = c (t + 10) k := by
      intro k hk
      rw [up_ne (by omega), up_ne (by omega), up_nj hk]
    have q10' : up (up (up c (t + 10) p 1) (t + 11) M p) t 11 ((M : Int) + 1) (t + 10) p = 1 := by rw [up_ne (by omega), up_ne (by omega), up_same]
    have q11 : ∀ k, k ≠ M → up (up (up c (t + 10) p 1) (t + 11) M p) t 11 ((M : Int) + 1) (t + 11) k = c (t + 11) k := by
      intro k hk
      rw [up_ne (by omega), up_nj hk, up_ne (by omega)]
    have q11' : up (up (up c (t + 10) p 1) (t + 11) M p) t 11 ((M : Int) + 1) (t + 11) M = p := by rw [up_ne (by omega), up_same]
    generalize up (up (up c (t + 10) p 1) (t + 11) M p) t 11 ((M : Int) + 1) = d at *
    refine ⟨d, rfl, ⟨⟨H.W, fun a k _ _ => (q a k (by omega) (by omega) (by omega)).trans (H.ct a k (by omega) (by omega)), H.rt⟩, ?_, ?_, H.S.cong (fun a k _ _ => q a k (by omega) (by omega) (by omega)) (fun a k _ _ => rfl)⟩, ⟨fun a k _ => q a k (by omega) (by omega) (by omega), fun k _ _ => q 50 k (by omega) (by omega) (by omega), ?_, ?_, ?_⟩, q10', q⟩
    · have h := H.R
      unfold TR at *
      rw [q 50 1 (by omega) (by omega) (by omega), q 50 2 (by omega) (by omega) (by omega), q 50 3 (by omega) (by omega) (by omega)]
      exact h
    · unfold MT
      rw [q0]
      refine ⟨by omega, by omega, ?_, ?_, ?_⟩
      · intro m hm
        by_cases e : m = M
        · subst e
          rw [q11', Int.toNat_natCast, q10']
          omega
        · have := h3 m (by omega)
          rw [q11 m e]
          refine ⟨this.1, this.2.1, ?_⟩
          by_cases e2 : (c (t + 11) m).toNat = p
          · rw [e2, q10']
          · rw [q10 _ e2]; exact this.2.2
      · intro m m' hm hm'
        by_cases e : m = M
        · by_cases e' : m' = M
          · intro _; omega
          · subst e
            rw [q11', q11 m' e']
            intro he
            have := h3 m' (by omega)
            rw [← he, Int.toNat_natCast] at this
            omega
        · by_cases e' : m' = M
          · subst e'
            rw [q11', q11 m e]
            intro he
            have := h3 m (by omega)
            rw [he, Int.toNat_natCast] at this
            omega
          · rw [q11 m e, q11 m' e']
            exact h4 m m' (by omega) (by omega)
      · intro k hk
        by_cases e : k = p
        · subst e
          right
          exact ⟨q10', hv, M, by omega, q11'⟩
        · rw [q10 k e, q _ _ (by omega) (by omega) (by omega), q _ _ (by omega) (by omega) (by omega), q _ _ (by omega) (by omega) (by omega), q _ _ (by omega) (by omega) (by omega), q _ _ (by omega) (by omega) (by omega), q _ _ (by omega) (by omega) (by omega)]
          rcases h5 k hk with y | ⟨y1, y2, m, y3, y4⟩
          · exact Or.inl y
          · exact Or.inr ⟨y1, y2, m, by omega, by rw [q11 m (by omega)]; exact y4⟩
    · rw [q 50 3 (by omega) (by omega) (by omega)]; exact Int.le_refl _
    · intro k hk
      rw [q (t + 1) k (by omega) (by omega) (by omega), q (t + 3) k (by omega) (by omega) (by omega), q (t + 4) k (by omega) (by omega) (by omega), q (t + 5) k (by omega) (by omega) (by omega), q (t + 6) k (by omega) (by omega) (by omega)]
      refine ⟨Int.le_refl _, rfl, fun h => ?_, fun _ => ⟨rfl, rfl, fun _ => ⟨rfl, rfl⟩⟩⟩
      by_cases e : k = p
      · rw [e]; exact q10'
      · rw [q10 k e]; exact h
    · intro k i hk hi
      rw [q (t + 7) _ (by omega) (by omega) (by omega), q (t + 9) _ (by omega) (by omega) (by omega)]
      exact ⟨Iff.rfl, fun _ => rfl⟩
  · rw [z.1, w32_1, if_neg (by decide)]
    exact ⟨c, rfl, H, Mo.refl, z.1, fun _ _ _ _ _ => rfl⟩
/-- a head's telling, from its beginning to its end -/
theorem Mo.head {t : Nat} {c0 c1 c2 c3 : St} {p i : Nat} (h2 : t = 26 ∨ t = 38) (hp : p < 192) (hi : i < 64) (h0 : c0 (t + 7) (64 * p + i) ≠ 2) (h9 : c3 (t + 7) (64 * p + i) ≠ 2) (e1 : ∀ a k, ¬ (a = t + 7 ∧ k = 64 * p + i) → c1 a k = c0 a k) (M : Mo t 192 c1 c2)
    (e3 : ∀ a k, ¬ (a = t + 7 ∧ k = 64 * p + i) → ¬ (a = t + 8 ∧ k = 64 * p + i) → ¬ (a = t + 2 ∧ k = p) → ¬ (a = 50 ∧ k = 4) → c3 a k = c2 a k) : Mo t 192 c0 c3 := by
  obtain ⟨h1, h2', h3, h4, h5⟩ := M
  refine ⟨fun a k z => ?_, fun k z y => ?_, ?_, fun q hq => ?_, fun q j hq hj => ?_⟩
  · rw [e3 a k (by omega) (by omega) (by omega) (by omega), h1 a k z, e1 a k (by omega)]
  · rw [e3 50 k (by omega) (by omega) (by omega) (by omega), h2' k z y, e1 50 k (by omega)]
  · rw [e3 50 3 (by omega) (by omega) (by omega) (by omega), ← e1 50 3 (by omega)]
    exact h3
  · have := h4 q hq
    rw [e1 (t + 1) q (by omega), e1 (t + 3) q (by omega), e1 (t + 4) q (by omega), e1 (t + 5) q (by omega), e1 (t + 6) q (by omega), e1 (t + 10) q (by omega)] at this
    rw [e3 (t + 1) q (by omega) (by omega) (by omega) (by omega), e3 (t + 3) q (by omega) (by omega) (by omega) (by omega), e3 (t + 4) q (by omega) (by omega) (by omega) (by omega), e3 (t + 5) q (by omega) (by omega) (by omega) (by omega), e3 (t + 6) q (by omega) (by omega) (by omega) (by omega), e3 (t + 10) q (by omega) (by omega) (by omega) (by omega)]
    exact this
  · have := h5 q j hq hj
    rw [e1 (t + 1) q (by omega), e1 (t + 9) _ (by omega)] at this
    rw [e3 (t + 9) _ (by omega) (by omega) (by omega) (by omega)]
    refine ⟨?_, this.2⟩
    by_cases e : q = p ∧ j = i
    · obtain ⟨rfl, rfl⟩ := e
      exact ⟨fun z => absurd z h0, fun z => absurd z h9⟩
    · rw [e3 (t + 7) _ (by omega) (by omega) (by omega) (by omega), ← e1 (t + 7) _ (by omega)]
      exact this.1
/-- a place's telling -/
theorem Mo.place {t : Nat} {c0 c1 c2 c3 : St} {p : Nat} (h2 : t = 26 ∨ t = 38) (hp : p < 192) (h0 : c0 (t + 4) p = 0) (e1 : ∀ a k, ¬ (a = t + 4 ∧ k = p) → c1 a k = c0 a k) (M : Mo t p c1 c2)
    (e3 : ∀ a k, ¬ (a = t + 4 ∧ k = p) → ¬ (a = t + 1 ∧ k = p) → ¬ (a = t + 3 ∧ k = p) → c3 a k = c2 a k) (h4' : c3 (t + 4) p = 0) (h5' : c2 (t + 1) p ≤ c3 (t + 1) p) : Mo t 192 c0 c3 := by
  obtain ⟨h1, h2', h3, h4, h5⟩ := M
  refine ⟨fun a k z => ?_, fun k z y => ?_, ?_, fun q hq => ?_, fun q j hq hj => ?_⟩
  · rw [e3 a k (by omega) (by omega) (by omega), h1 a k z, e1 a k (by omega)]
  · rw [e3 50 k (by omega) (by omega) (by omega), h2' k z y, e1 50 k (by omega)]
  · rw [e3 50 3 (by omega) (by omega) (by omega), ← e1 50 3 (by omega)]
    exact h3
  · have := h4 q hq
    rw [e1 (t + 1) q (by omega), e1 (t + 3) q (by omega), e1 (t + 5) q (by omega), e1 (t + 6) q (by omega), e1 (t + 10) q (by omega)] at this
    rw [e3 (t + 5) q (by omega) (by omega) (by omega), e3 (t + 6) q (by omega) (by omega) (by omega), e3 (t + 10) q (by omega) (by omega) (by omega)]
    by_cases e : q = p
    · subst e
      exact ⟨by omega, by omega, this.2.2.1, fun z => by omega⟩
    · rw [e1 (t + 4) q (by omega)] at this
      rw [e3 (t + 1) q (by omega) (by omega) (by omega), e3 (t + 3) q (by omega) (by omega) (by omega), e3 (t + 4) q (by omega) (by omega) (by omega)]
      exact ⟨this.1, this.2.1, this.2.2.1, fun z => ⟨(this.2.2.2 z).1, (this.2.2.2 z).2.1, fun _ => (this.2.2.2 z).2.2 e⟩⟩
  · have := h5 q j hq hj
    rw [e1 (t + 1) q (by omega), e1 (t + 9) _ (by omega), e1 (t + 7) _ (by omega)] at this
    rw [e3 (t + 9) _ (by omega) (by omega) (by omega), e3 (t + 7) _ (by omega) (by omega) (by omega)]
    exact this
