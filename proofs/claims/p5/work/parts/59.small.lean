def AnH (v : Int) : Prop := v = 1 ∨ v = -6 ∨ (-24 ≤ v ∧ v ≤ -21)
def T2 (t : Nat) : Prop := t = 26 ∨ t = 38
theorem AnH.rng {v : Int} (h : AnH v) : -100 ≤ v ∧ v ≤ 100 := by
  unfold AnH at h
  omega
theorem An.rng {v : Int} (h : An v) : -100 ≤ v ∧ v ≤ 100 := by
  unfold An at h
  omega
def QP (t : Nat) (T c r : St) (p : Nat) (z : Int) (c' r' : St) (v : Int) : Prop := TI t T c' r' ∧ Mo t 192 c c' ∧ Fm r r' ∧ An v ∧ (v = 1 → Td t T c' p z)
def QH (t : Nat) (T c r : St) (c' r' : St) (v : Int) : Prop := TI t T c' r' ∧ Mo t 192 c c' ∧ Fm r r' ∧ AnH v ∧ (v = 1 → c' 50 4 = r' 77 38)
def AP (t : Nat) (T : St) (f : Int) (A P : St → Int → Int → Option Rs) : Prop := ∀ (c r : St) (p : Nat) (x x' y y' z : Int), TI t T c r → VP T p → x = p → x' = p → y = z → y' = z → 0 ≤ z → z ≤ 100000 → c 50 2 < f + c 50 3 → Two (A c x y) (P r x' y') (QP t T c r p z)
def AH (t : Nat) (T : St) (f : Int) (A P : St → Int → Int → Option Rs) : Prop := ∀ (c r : St) (p : Nat) (x x' y y' z : Int), TI t T c r → VP T p → x = p → x' = p → y = z → y' = z → Td t T c p z → c 50 2 < f + c 50 3 → Two (A c x y) (P r x' y') (QH t T c r)
theorem QH.after {t : Nat} {T c r c1 r1 c2 r2 : St} {v : Int} (h : QH t T c1 r1 c2 r2 v) (M : Mo t 192 c c1) (F : Fm r r1) : QH t T c r c2 r2 v := ⟨h.1, M.trans h.2.1, F.trans h.2.2.1, h.2.2.2.1, h.2.2.2.2⟩
theorem QP.after {t p : Nat} {T c r c1 r1 c2 r2 : St} {z v : Int} (h : QP t T c1 r1 p z c2 r2 v) (M : Mo t 192 c c1) (F : Fm r r1) : QP t T c r p z c2 r2 v := ⟨h.1, M.trans h.2.1, F.trans h.2.2.1, h.2.2.2.1, h.2.2.2.2⟩
theorem QH.val {t : Nat} {T c r : St} (h2 : t = 26 ∨ t = 38) (H : TI t T c r) {x y : Int} (h : x = y) : QH t T c r (up c 50 4 x) (up r 77 38 y) 1 := by
  have h1 := U_valL h2 H x
  have h3 := U_valR h2 h1.1 y
  exact ⟨h3.1, h1.2, h3.2, Or.inl rfl, fun _ => by rw [up_same, up_same, h]⟩
theorem QH.no {t : Nat} {T c r : St} (H : TI t T c r) {v : Int} (h : AnH v) (h1 : v ≠ 1) : QH t T c r c r v := ⟨H, Mo.refl, Fm.refl, h, fun z => absurd z h1⟩
theorem Mo.f {t x : Nat} {c c' : St} {f : Int} (M : Mo t x c c') (h : c 50 2 < f + c 50 3) : c' 50 2 < f + c' 50 3 := by
  have h1 := M.2.1 2 (by omega) (by omega)
  have h3 := M.2.2.1
  omega
theorem Mo.pl {t x : Nat} {c c' : St} (M : Mo t x c c') : ∀ q, q < 192 → c (t + 1) q ≤ c' (t + 1) q := fun q hq => (M.2.2.2.1 q hq).1
theorem J_comb {t : Nat} {T c r : St} {N : Nat} (h2 : t = 26 ∨ t = 38) (H : TI t T c r) {o o' a a' b b' : Int} (ho : o = 42 ∨ o = 43 ∨ o = 45 ∨ o = 47 ∨ o = 37) (ho' : o' = o) (ha : a' = a) (hb : b' = b) : Two (d_x4_combine N c o a b) (d_x8_joined N r o' a' b') (QH t T c r) := by
  subst ho' ha hb
  unfold d_x4_combine d_x8_joined
  rw [w32i (x := o') (by omega) (by omega)]
  have k22 : ∀ (h : w64 b' ≠ 0 ∨ (o' ≠ 47 ∧ o' ≠ 37)), Two (d_x4_combine_22 N c o' a' b') (d_x8_joined_22 N r o' a' b') (QH t T c r) := by
    intro h
    unfold d_x4_combine_22 d_x8_joined_22 d_x8_joined_79
    rw [w32i (x := o') (by omega) (by omega)]
    rcases ho with e | e | e | e | e
    · subst e
      exact Two.iL rfl (Two.eR (by decide) (Two.eR (by decide) (Two.iR rfl (Two.ret rfl (QH.val h2 H rfl)))))
    · subst e
      exact Two.eL (by decide) (Two.iL rfl (Two.iR rfl (Two.ret rfl (QH.val h2 H rfl))))
    · subst e
      exact Two.eL (by decide) (Two.eL (by decide) (Two.iL rfl (Two.eR (by decide) (Two.iR rfl (Two.ret rfl (QH.val h2 H rfl))))))
    · subst e
      exact Two.eL (by decide) (Two.eL (by decide) (Two.eL (by decide) (Two.iL rfl (Two.eL (by omega) (Two.eR (by decide) (Two.eR (by decide) (Two.eR (by decide) (Two.iR rfl (Two.eR (by omega) (Two.ret rfl (QH.val h2 H rfl)))))))))))
    · subst e
      exact Two.eL (by decide) (Two.eL (by decide) (Two.eL (by decide) (Two.eL (by decide) (Two.eL (by decide) (Two.eL (by decide) (Two.eL (by omega) (Two.eR (by decide) (Two.eR (by decide) (Two.eR (by decide) (Two.eR (by decide) (Two.eR (by omega) (Two.ret rfl (QH.val h2 H rfl)))))))))))))
  have k12 : Two (d_x4_combine_12 N c o' a' b') (d_x8_joined_12 N r o' a' b') (QH t T c r) := by
    unfold d_x4_combine_12 d_x8_joined_12
    by_cases h : w64 b' = 0
    · exact Two.iL h (Two.iR h (Two.ret rfl (QH.no H (by unfold AnH; omega) (by decide))))
    · exact Two.eL h (Two.eR h (k22 (Or.inl h)))
  by_cases h1 : o' = 47
  · exact Two.iL h1 (Two.iR h1 k12)
  · by_cases h3 : o' = 37
    · exact Two.eL h1 (Two.eR h1 (Two.iL h3 (Two.iR h3 k12)))
    · exact Two.eL h1 (Two.eR h1 (Two.eL h3 (Two.eR h3 (k22 (Or.inr ⟨h1, h3⟩)))))
theorem p102_1 {N : Nat} {s : St} : d_x4_passes_102 N s 1 = some (s, 1) := by
  unfold d_x4_passes_102
  rw [w32_1, if_neg (by decide)]
theorem p102_0 {N : Nat} {s : St} : d_x4_passes_102 N s 0 = some (s, 0) := by
  unfold d_x4_passes_102
  rw [w32_0, if_pos rfl]
theorem J_pass {c r : St} {N : Nat} {p : Nat} {o a a' n : Int} (hp : p < 192) (ho : o = 60 ∨ o = 61 ∨ o = 62 ∨ o = 37) (hn : -9999 ≤ n ∧ n ≤ 9999) (h80 : r 80 p = o) (h82 : r 82 p = n) (ha : a' = a) : ∃ v, d_x4_passes N c o a n = some (c, v) ∧ d_x8_passes N r (p : Int) a' = some (r, v) ∧ (v = 1 ∨ v = 0 ∨ v = -22) := by
  subst ha
  have hg : 0 ≤ (p : Int) ∧ (p : Int) < ((192 : Nat) : Int) := by omega
  unfold d_x4_passes d_x8_passes d_x8_passes_95 d_x4_passes_40 d_x4_passes_57 d_x4_passes_74 d_x4_passes_100
  rw [bd_eq]
  rw [w32i (x := (p : Int)) (by omega) (by omega), Int.toNat_natCast, h80, h82, w32i (x := o) (by omega) (by omega), w32i (x := n) (by omega) (by omega), w64_id (x := n) (by omega), p102_0, p102_1]
  simp only [if_pos hg]
  rcases ho with e | e | e | e
  · rw [if_pos (show o = 60 from e), if_neg (show ¬ o = 37 by omega), if_pos (show o = 60 from e)]
    by_cases h : w64 a' < n
    · exact ⟨1, if_pos h, if_pos h, by omega⟩
    · exact ⟨0, if_neg h, if_neg h, by omega⟩
  · rw [if_neg (show ¬ o = 60 by omega), if_pos (show o = 61 from e), if_neg (show ¬ o = 37 by omega), if_neg (show ¬ o = 60 by omega), if_neg (show ¬ o = 62 by omega)]
    by_cases h : w64 a' = n
    · exact ⟨1, if_pos h, if_pos h, by omega⟩
    · exact ⟨0, if_neg h, if_neg h, by omega⟩
  · rw [if_neg (show ¬ o = 60 by omega), if_neg (show ¬ o = 61 by omega), if_pos (show o = 62 from e), if_neg (show ¬ o = 37 by omega), if_neg (show ¬ o = 60 by omega), if_pos (show o = 62 from e)]
    by_cases h : n < w64 a'
    · exact ⟨1, if_pos h, if_pos h, by omega⟩
    · exact ⟨0, if_neg h, if_neg h, by omega⟩
  · rw [if_neg (show ¬ o = 60 by omega), if_neg (show ¬ o = 61 by omega), if_neg (show ¬ o = 62 by omega), if_pos (show o = 37 from e)]
    by_cases h : n = 0
    · exact ⟨-22, if_pos h, if_pos h, by omega⟩
    · rw [if_neg h, if_neg h, if_neg h, if_neg h]
      by_cases h3 : w64 (Int.tmod (w64 a') n) = 0
      · exact ⟨1, if_pos h3, if_pos h3, by omega⟩
      · exact ⟨0, if_neg h3, if_neg h3, by omega⟩
theorem e_second {T c : St} {N p : Nat} (hc : ct c T) (W : WT T) (hp : VP T (p + 1)) : d_x5_secondRow N 17 8 c (p : Int) = some (c, ((p + 1 + (T 23 (p + 1)).toNat : Nat) : Int)) := by
  have h1 := hp.1
  have w := (W.2 _ hp).1
  unfold d_x5_secondRow
  show (if w32 ((p + 1 : Nat) : Int) < w32 ((192 : Nat) : Int) then if 0 ≤ w32 ((p + 1 : Nat) : Int) ∧ w32 ((p + 1 : Nat) : Int) < ((192 : Nat) : Int) then some (c, ((p + 1 : Nat) : Int) + c 23 (w32 ((p + 1 : Nat) : Int)).toNat) else none else _) = _
  rw [w32i (x := ((p + 1 : Nat) : Int)) (by omega) (by omega), w32i (x := ((192 : Nat) : Int)) (by omega) (by omega), if_pos (by omega), if_pos (by omega), Int.toNat_natCast, hc 23 _ (by omega) (by omega)]
  congr 2
  omega
theorem e_other {T r : St} {N p : Nat} (hr : rt r T) (W : WT T) (hp : VP T (p + 1)) : d_x8_other N r (p : Int) = some (r, ((p + 1 + (T 23 (p + 1)).toNat : Nat) : Int)) := by
  have h1 := hp.1
  have w := (W.2 _ hp).1
  unfold d_x8_other
  show (if 0 ≤ w32 ((p + 1 : Nat) : Int) ∧ w32 ((p + 1 : Nat) : Int) < ((192 : Nat) : Int) then some (r, ((p + 1 : Nat) : Int) + r 81 (w32 ((p + 1 : Nat) : Int)).toNat) else none) = _
  rw [w32i (x := ((p + 1 : Nat) : Int)) (by omega) (by omega), if_pos (by omega), Int.toNat_natCast, hr 81 _ (by omega) (by omega), w.2.2.1]
  congr 2
  omega
theorem e_run {t : Nat} {T c r : St} {N : Nat} (H : TI t T c r) : d_x4_beginsRun N c = if c 50 3 < c 50 2 then some (up c 50 3 (c 50 3 + 1), 1) else some (c, 0) := by
  have h := H.R
  unfold TR at h
  unfold d_x4_beginsRun
  rw [w32i (x := c 50 3) (by omega) (by omega), w32i (x := c 50 2) (by omega) (by omega)]
  rfl
theorem e_first {N p : Nat} {c : St} : d_x5_firstRow N 17 8 c (p : Int) = some (c, ((p + 1 : Nat) : Int)) := rfl
