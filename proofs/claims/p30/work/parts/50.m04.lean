section
/-! working with the decompiled functions -/
def fz (s : St) (a lo n : Nat) (x : Int) : St := fun b k => if b = a ∧ lo ≤ k ∧ k < lo + n then x else s b k
def r32 (x : Int) : Prop := -2147483648 ≤ x ∧ x ≤ 2147483647
theorem w32i {x : Int} (h1 : -2147483648 ≤ x) (h2 : x ≤ 2147483647) : w32 x = x := w32_id ⟨h1, h2⟩
theorem w32r {x : Int} (h : r32 x) : w32 x = x := w32_id h
theorem w64r {x : Int} (h : r32 x) : w64 x = x := w64_id (by unfold r32 at h; omega)
theorem w32_1 : w32 1 = 1 := rfl
theorem bI_some {s : St} {v : Int} {K : St → Int → Option Rs} : bI (some (s, v)) K = K s v := rfl
theorem bV_some {s : St} {v : Int} {K : St → Option Rs} : bV (some (s, v)) K = K s := rfl
theorem bS_some {s : St} {v : Int} {K : St → Nat → Option Rs} : bS (some (s, v)) K = K s v.toNat := rfl
theorem up_app {s : St} {a j b k : Nat} {x : Int} : up s a j x b k = if b = a ∧ k = j then x else s b k := rfl
theorem fz_app {s : St} {a lo n b k : Nat} {x : Int} : fz s a lo n x b k = if b = a ∧ lo ≤ k ∧ k < lo + n then x else s b k := rfl
theorem cp_app {s : St} {a0 sp a1 dp n b k : Nat} : cp s a0 sp a1 dp n b k = if b = a1 ∧ dp ≤ k ∧ k < dp + n then s a0 (sp + (k - dp)) else s b k := rfl
theorem fz_0 {s : St} {a lo : Nat} {x : Int} : fz s a lo 0 x = s := by
  funext b k
  rw [fz_app, if_neg (by omega)]
theorem fz_up {s : St} {a lo n : Nat} {x : Int} : fz (up s a lo x) a (lo + 1) n x = fz s a lo (n + 1) x := by
  funext b k
  rw [fz_app, fz_app, up_app]
  by_cases h1 : b = a ∧ lo + 1 ≤ k ∧ k < lo + 1 + n
  · rw [if_pos h1, if_pos (by omega)]
  · rw [if_neg h1]
    by_cases h2 : b = a ∧ k = lo
    · rw [if_pos h2, if_pos (by omega)]
    · rw [if_neg h2, if_neg (by omega)]
theorem e_in (N : Nat) (s : St) (v a b : Int) : d_x8_in N s v a b = some (s, if w64 a ≤ w64 v ∧ w64 v ≤ w64 b then 1 else 0) := by
  unfold d_x8_in
  by_cases h1 : w64 v < w64 a
  · rw [if_pos h1, if_neg (by omega)]
  · rw [if_neg h1]
    by_cases h2 : w64 b < w64 v
    · rw [if_pos h2, if_neg (by omega)]
    · rw [if_neg h2, if_pos (by omega)]
theorem e_in32 (N : Nat) (s : St) {v a b : Int} (hv : r32 v) (ha : r32 a) (hb : r32 b) : d_x8_in N s v a b = some (s, if a ≤ v ∧ v ≤ b then 1 else 0) := by rw [e_in, w64r hv, w64r ha, w64r hb]
theorem bz (c : Prop) [Decidable c] {α : Type} {A B : α} : (if (if c then (1 : Int) else 0) = 0 ∨ (if c then (1 : Int) else 0) = 1 then A else B) = A := by
  by_cases h : c
  · rw [if_pos h]; exact if_pos (Or.inr rfl)
  · rw [if_neg h]; exact if_pos (Or.inl rfl)
theorem wz (c : Prop) [Decidable c] : w32 (if c then (1 : Int) else 0) = (if c then (1 : Int) else 0) := by split <;> rfl
theorem iz {α : Type} (c : Prop) [Decidable c] {A B : α} : (if (if c then (1 : Int) else 0) = 0 then A else B) = if c then B else A := by
  by_cases h : c
  · rw [if_pos h, if_pos h]; exact if_neg (by decide)
  · rw [if_neg h, if_neg h]; exact if_pos rfl
theorem e_isSheet8 (N : Nat) (s : St) {a : Int} (h : r32 a) : d_x8_isSheet N s a = some (s, if 0 ≤ a ∧ a < 4 then 1 else 0) := by
  unfold d_x8_isSheet
  rw [w32r h, e_in32 N s h (by unfold r32; omega) (by unfold r32; omega), bI_some, bz]
  by_cases h1 : 0 ≤ a ∧ a < 4
  · rw [if_pos h1, if_pos (by omega)]
  · rw [if_neg h1, if_neg (by omega)]
theorem e_isSheet7 (N : Nat) (s : St) {a : Int} (h : r32 a) : d_x7_isSheet N s a = some (s, if 0 ≤ a ∧ a < 4 then 1 else 0) := by
  unfold d_x7_isSheet
  rw [w32r h]
  by_cases h1 : a < 0
  · rw [if_pos h1, if_neg (by omega)]
  · rw [if_neg h1]
    by_cases h2 : a < 4
    · rw [if_pos h2, if_pos (by omega)]
    · rw [if_neg h2, if_neg (by omega)]
theorem e_isStream8 (N : Nat) (s : St) {a : Int} (h : r32 a) : d_x8_isStream N s a = some (s, if 0 ≤ a ∧ a < 8 then 1 else 0) := by
  unfold d_x8_isStream
  rw [w32r h, e_in32 N s h (by unfold r32; omega) (by unfold r32; omega), bI_some, bz]
  by_cases h1 : 0 ≤ a ∧ a < 8
  · rw [if_pos h1, if_pos (by omega)]
  · rw [if_neg h1, if_neg (by omega)]
theorem e_isStream7 (N : Nat) (s : St) {a : Int} (h : r32 a) : d_x7_isStream N s a = some (s, if 0 ≤ a ∧ a < 8 then 1 else 0) := by
  unfold d_x7_isStream
  rw [w32r h]
  by_cases h1 : a < 0
  · rw [if_pos h1, if_neg (by omega)]
  · rw [if_neg h1]
    by_cases h2 : a < 8
    · rw [if_pos h2, if_pos (by omega)]
    · rw [if_neg h2, if_neg (by omega)]
end
section
/-- the sheets of both -/
def RSh (c r : St) : Prop := ∀ h : Nat, h < 4 → (c 52 h = -1 ∧ r 126 h = 0) ∨
  ((c 52 h = 0 ∨ c 52 h = 1 ∨ c 52 h = 2) ∧ r 126 h = 1 ∧ r 127 h = c 52 h ∧ r 128 h = c 53 h ∧ 0 ≤ c 53 h ∧ c 53 h ≤ 40 ∧ ∀ i : Nat, (i : Int) < c 53 h → c 54 (h * 40 + i) = r 129 (h * 40 + i))
def cSh (a : Nat) : Prop := a = 52 ∨ a = 53 ∨ a = 54
def mSh (a : Nat) : Prop := a = 126 ∨ a = 127 ∨ a = 128 ∨ a = 129
/-- nothing but A has changed -/
def Fr (A : Nat → Prop) (s t : St) : Prop := ∀ a k, ¬ A a → t a k = s a k
theorem Fr.refl {A : Nat → Prop} {s : St} : Fr A s s := fun _ _ _ => rfl
theorem Fr.trans {A : Nat → Prop} {s t u : St} (h : Fr A s t) (g : Fr A t u) : Fr A s u := fun a k z => (g a k z).trans (h a k z)
theorem Fr.up {A : Nat → Prop} {s : St} {a j : Nat} {x : Int} (h : A a) : Fr A s (up s a j x) := fun b k z => up_ne (fun e => z (e ▸ h))
theorem Fr.fz {A : Nat → Prop} {s : St} {a lo n : Nat} {x : Int} (h : A a) : Fr A s (fz s a lo n x) := fun b k z => by
  have hn : ¬ (b = a ∧ lo ≤ k ∧ k < lo + n) := fun e => z (e.1 ▸ h)
  rw [fz_app, if_neg hn]
theorem Fr.cp {A : Nat → Prop} {s : St} {a0 sp a1 dp n : Nat} (h : A a1) : Fr A s (cp s a0 sp a1 dp n) := fun b k z => cp_ne (fun e => z (e ▸ h))
theorem renewL (N : Nat) : ∀ (n : Nat) (s : St) (h m j : Nat), h < 4 → m ≤ 40 → j ≤ m → m < n + j → d_x3_renew_17L N n s (h : Int) (m : Int) (j : Int) = some (fz s 54 (h * 40 + j) (m - j) 0, 0) := by
  intro n
  induction n with
  | zero => intro s h m j _ _ _ h4; omega
  | succ n ih =>
    intro s h m j h1 h2 h3 h4
    show d_x3_renew_17 N (d_x3_renew_17L N n) s h m j = _
    unfold d_x3_renew_17
    rw [w32i (x := (j : Int)) (by omega) (by omega), w32i (x := (m : Int)) (by omega) (by omega), w32i (x := (h : Int) * 40 + j) (by omega) (by omega)]
    by_cases hjm : j = m
    · subst hjm
      rw [if_neg (by omega), Nat.sub_self, fz_0]
    · rw [if_pos (by omega), if_pos (by omega)]
      show d_x3_renew_17L N n (up s 54 ((h : Int) * 40 + j).toNat 0) h m ((j + 1 : Nat) : Int) = _
      rw [ih _ h m (j + 1) h1 h2 (by omega) (by omega), show ((h : Int) * 40 + j).toNat = h * 40 + j by omega, show h * 40 + (j + 1) = h * 40 + j + 1 by omega, fz_up, show m - (j + 1) + 1 = m - j by omega]
theorem e_renew {N : Nat} (hN : 100 ≤ N) (s : St) (h m : Nat) (q : Int) (h1 : h < 4) (h2 : m ≤ 40) : d_x3_renew N s (h : Int) q (m : Int) = some (fz (up (up s 52 h q) 53 h m) 54 (h * 40) m 0, 0) := by
  unfold d_x3_renew
  rw [w32i (x := (h : Int)) (by omega) (by omega), if_pos (by omega)]
  show (if 0 ≤ (h : Int) ∧ (h : Int) < ((4 : Nat) : Int) then d_x3_renew_17L N N (up (up s 52 (h : Int).toNat q) 53 (h : Int).toNat m) h m ((0 : Nat) : Int) else none) = _
  rw [if_pos (by omega), renewL N N _ h m 0 h1 h2 (by omega) (by omega)]
  rfl
theorem sheetL (N : Nat) (x2 : Int) (hx : r32 x2) (hx2 : ¬ x2 < 0) : ∀ (n : Nat) (s : St) (h m j : Nat), h < 4 → m ≤ 40 → j ≤ m → m < n + j → d_x8_sheet_77L N n s (h : Int) x2 (m : Int) (j : Int) = some (fz s 129 (h * 40 + j) (m - j) 0, 1) := by
  intro n
  induction n with
  | zero => intro s h m j _ _ _ h4; omega
  | succ n ih =>
    intro s h m j h1 h2 h3 h4
    show d_x8_sheet_77 N (d_x8_sheet_77L N n) s h x2 m j = _
    unfold d_x8_sheet_77
    rw [w32i (x := (j : Int)) (by omega) (by omega), w32i (x := (m : Int)) (by omega) (by omega), w32i (x := 40 * (h : Int) + j) (by omega) (by omega), w32r hx]
    by_cases hjm : j = m
    · subst hjm
      rw [if_neg (by omega), Nat.sub_self, fz_0]
    · rw [if_pos (by omega), if_neg hx2, if_pos (by omega)]
      show d_x8_sheet_77L N n (up s 129 (40 * (h : Int) + j).toNat 0) h x2 m ((j + 1 : Nat) : Int) = _
      rw [ih _ h m (j + 1) h1 h2 (by omega) (by omega), show (40 * (h : Int) + j).toNat = h * 40 + j by omega, show h * 40 + (j + 1) = h * 40 + j + 1 by omega, fz_up, show m - (j + 1) + 1 = m - j by omega]
theorem sheetL0 (N n : Nat) (s : St) (h x2 m j : Int) (hx : r32 x2) (hx2 : x2 < 0) : d_x8_sheet_77L N (n + 1) s h x2 m j = some (s, 1) := by
  show d_x8_sheet_77 N (d_x8_sheet_77L N n) s h x2 m j = _
  unfold d_x8_sheet_77
  rw [w32r hx, if_pos hx2]
  split <;> rfl
/-- sheet() on both sides -/
theorem r_sheet {N : Nat} (hN : 100 ≤ N) {c r : St} {a0 a1 a2 : Int} (h0 : r32 a0) (h1 : r32 a1) (h2 : r32 a2) (H : RSh c r) : ∃ c' r' v, d_x7_sheet N c a0 a1 a2 = some (c', v) ∧ d_x8_sheet N r a0 a1 a2 = some (r', v) ∧ RSh c' r' ∧ Fr cSh c c' ∧ Fr mSh r r' := by
  unfold d_x7_sheet d_x8_sheet
  rw [e_isSheet7 N c h0, e_isSheet8 N r h0, bI_some, bI_some, wz, iz, iz, w32r h1, w32r h2, e_in32 N r h1 (by unfold r32; omega) (by unfold r32; omega), bI_some, wz, iz]
  by_cases hs : 0 ≤ a0 ∧ a0 < 4
  · rw [if_pos hs, if_pos hs]
    obtain ⟨h, rfl⟩ : ∃ h : Nat, a0 = h := ⟨a0.toNat, by omega⟩
    have hh : h < 4 := by omega
    by_cases ha : -1 ≤ a1 ∧ a1 ≤ 2
    · rw [if_neg (by omega), if_neg (by omega), if_pos ha]
      by_cases ha1 : a1 = -1
      · subst ha1
        rw [if_pos rfl, if_pos (show (-1 : Int) < 0 by omega), show (0 : Int) = ((0 : Nat) : Int) from rfl, e_renew hN c h 0 (-1) hh (by omega)]
        unfold d_x8_sheet_34 d_x8_sheet_45 d_x8_sheet_59
        rw [w32r h1, w32i (x := (h : Int)) (by omega) (by omega), if_pos (by omega), if_pos (by omega), if_pos (by omega)]
        obtain ⟨n, rfl⟩ : ∃ n, N = n + 1 := ⟨N - 1, by omega⟩
        refine ⟨_, up (up (up r 126 h 0) 127 h (-1)) 128 h a2, 1, rfl, ?_, ?_, ?_, ?_⟩
        · show (if 0 ≤ (h : Int) ∧ (h : Int) < ((4 : Nat) : Int) then (if 0 ≤ (h : Int) ∧ (h : Int) < ((4 : Nat) : Int) then d_x8_sheet_77L (n + 1) (n + 1) (up (up (up r 126 h 0) 127 h (-1)) 128 h a2) h (-1) a2 0 else none) else none) = _
          rw [if_pos (by omega), if_pos (by omega), sheetL0 _ _ _ _ _ _ _ h1 (by omega)]
        · show RSh (fz (up (up c 52 h (-1)) 53 h ((0 : Nat) : Int)) 54 (h * 40) 0 0) _
          rw [fz_0]
          intro k hk
          by_cases hkh : k = h
          · subst hkh
            left
            simp [up_app]
          · have := H k hk
            simpa [up_app, hkh] using this
        · exact ((Fr.up (by unfold cSh; omega)).trans (Fr.up (by unfold cSh; omega))).trans (Fr.fz (by unfold cSh; omega))
        · exact ((Fr.up (by unfold mSh; omega)).trans (Fr.up (by unfold mSh; omega))).trans (Fr.up (by unfold mSh; omega))
      · rw [if_neg ha1, if_neg (show ¬ a1 < 0 by omega)]
        by_cases hb : 40 < a2
        · rw [if_pos hb, if_pos hb]
          exact ⟨c, r, -2, rfl, rfl, H, Fr.refl, Fr.refl⟩
        · rw [if_neg hb, if_neg hb]
          unfold d_x8_sheet_34
          rw [w32r h1, w32r h2, if_neg (by omega : ¬ a1 < 0)]
          by_cases hb2 : a2 < 0
          · rw [if_pos hb2, if_pos hb2]
            exact ⟨c, r, -14, rfl, rfl, H, Fr.refl, Fr.refl⟩
          · obtain ⟨m, rfl⟩ : ∃ m : Nat, a2 = m := ⟨a2.toNat, by omega⟩
            rw [if_neg hb2, if_neg hb2, e_renew hN c h m a1 hh (by omega)]
            unfold d_x8_sheet_45 d_x8_sheet_59
            rw [w32r h1, w32i (x := (h : Int)) (by omega) (by omega), if_neg (by omega), if_pos (by omega)]
            refine ⟨_, fz (up (up (up r 126 h 1) 127 h a1) 128 h m) 129 (h * 40 + 0) (m - 0) 0, 1, rfl, ?_, ?_, ?_, ?_⟩
            · show (if 0 ≤ (h : Int) ∧ (h : Int) < ((4 : Nat) : Int) then (if 0 ≤ (h : Int) ∧ (h : Int) < ((4 : Nat) : Int) then d_x8_sheet_77L N N (up (up (up r 126 h 1) 127 h a1) 128 h m) h a1 m ((0 : Nat) : Int) else none) else none) = _
              rw [if_pos (by omega), if_pos (by omega), sheetL N a1 h1 (by omega) N _ h m 0 hh (by omega) (by omega) (by omega)]
            · intro k hk
              by_cases hkh : k = h
              · subst hkh
                right
                simp only [fz_app, up_app]
                refine ⟨?_, ?_, ?_, ?_, ?_, ?_, ?_⟩
                · simp; omega
                · simp
                · simp
                · simp
                · simp
                · simp; omega
                · intro i hi
                  simp at hi
                  rw [if_pos (show True ∧ k * 40 ≤ k * 40 + i ∧ k * 40 + i < k * 40 + m from ⟨trivial, by omega, by omega⟩), if_pos (show True ∧ k * 40 + 0 ≤ k * 40 + i ∧ k * 40 + i < k * 40 + 0 + (m - 0) from ⟨trivial, by omega, by omega⟩)]
              · have := H k hk
                have e1 : ∀ i : Nat, (i : Int) < c 53 k → c 53 k ≤ 40 → ¬ (h * 40 ≤ k * 40 + i ∧ k * 40 + i < h * 40 + m) := by intro i h1 h2; omega
                rcases this with z | ⟨z1, z2, z3, z4, z5, z6, z7⟩
                · left; simpa [fz_app, up_app, hkh] using z
                · right
                  simp only [fz_app, up_app]
                  refine ⟨by simpa [hkh] using z1, by simpa [hkh] using z2, by simpa [hkh] using z3, by simpa [hkh] using z4, by simpa [hkh] using z5, by simpa [hkh] using z6, ?_⟩
                  intro i hi
                  have hi : (i : Int) < c 53 k := by simpa [hkh] using hi
                  have := e1 i hi z6
                  simpa [hkh, this] using z7 i hi
            · exact ((Fr.up (by unfold cSh; omega)).trans (Fr.up (by unfold cSh; omega))).trans (Fr.fz (by unfold cSh; omega))
            · exact (((Fr.up (by unfold mSh; omega)).trans (Fr.up (by unfold mSh; omega))).trans (Fr.up (by unfold mSh; omega))).trans (Fr.fz (by unfold mSh; omega))
    · rw [if_neg ha]
      refine ⟨c, r, -2, ?_, rfl, H, Fr.refl, Fr.refl⟩
      by_cases ha2 : a1 < -1
      · rw [if_pos ha2]
      · rw [if_neg ha2, if_pos (by omega)]
  · rw [if_neg hs, if_neg hs]
    exact ⟨c, r, -2, rfl, rfl, H, Fr.refl, Fr.refl⟩
end
section
/-- limit() on both sides: the limit of both is at 0, 12 and 77, 9 -/
def RLi (c r : St) : Prop := r 77 9 = c 0 12 ∧ 0 ≤ c 0 12 ∧ c 0 12 ≤ 99
theorem r_limit {N : Nat} {c r : St} {a0 : Int} (h0 : r32 a0) (H : RLi c r) : ∃ c' r' v, d_x7_limit N c a0 = some (c', v) ∧ d_x8_limit N r a0 = some (r', v) ∧ RLi c' r' ∧ (∀ a k, ¬ (a = 0 ∧ k = 12) → c' a k = c a k) ∧ (∀ a k, ¬ (a = 77 ∧ k = 9) → r' a k = r a k) := by
  unfold d_x7_limit d_x8_limit
  rw [w32r h0, e_in32 N r h0 (by unfold r32; omega) (by unfold r32; omega), bI_some, wz, iz]
  by_cases hs : 0 ≤ a0 ∧ a0 ≤ 99
  · rw [if_neg (show ¬ a0 < 0 by omega), if_neg (show ¬ 99 < a0 by omega), if_pos hs]
    refine ⟨up c 0 12 a0, up r 77 9 a0, c 0 12, rfl, ?_, ?_, fun a k h => if_neg h, fun a k h => if_neg h⟩
    · show some (up r 77 9 a0, r 77 9) = _
      rw [H.1]
    · unfold RLi
      rw [up_same, up_same]
      omega
  · rw [if_neg hs]
    refine ⟨c, r, -2, ?_, rfl, H, fun _ _ _ => rfl, fun _ _ _ => rfl⟩
    by_cases h1 : a0 < 0
    · rw [if_pos h1]
    · rw [if_neg h1, if_pos (by omega)]
end
section
theorem bd_eq {α β : Type} (x : α) (f : α → β) : bd x f = f x := rfl
theorem e_miss {N : Nat} (c : St) {h : Nat} (hh : h < 4) (hr : r32 (c 52 h)) : d_x3_isMissing N c (h : Int) = some (c, if c 52 h = -1 then 1 else 0) := by
  unfold d_x3_isMissing
  rw [w32i (x := (h : Int)) (by omega) (by omega), if_pos (show 0 ≤ (h : Int) ∧ (h : Int) < ((4 : Nat) : Int) by omega), Int.toNat_natCast, w32r hr]
  split <;> rfl
theorem e_spans {N : Nat} (c : St) {h : Nat} {a1 a2 : Int} (hh : h < 4) (h1 : r32 a1) (h2 : r32 a2) (hs : 0 ≤ c 53 h ∧ c 53 h ≤ 40) : d_x3_spans N c (h : Int) a1 a2 = some (c, if 0 ≤ a1 ∧ 0 ≤ a2 ∧ a1 + a2 ≤ c 53 h then 1 else 0) := by
  unfold d_x3_spans
  rw [w32r h1, w32r h2, w32i (x := (h : Int)) (by omega) (by omega), Int.toNat_natCast, w32i (x := c 53 h) (by omega) (by omega)]
  unfold r32 at h1 h2
  by_cases g1 : a1 < 0
  · rw [if_pos g1, if_neg (by omega)]
  · rw [if_neg g1]
    by_cases g2 : a2 < 0
    · rw [if_pos g2, if_neg (by omega)]
    · rw [if_neg g2, if_pos (show 0 ≤ (h : Int) ∧ (h : Int) < ((4 : Nat) : Int) by omega)]
      by_cases g3 : c 53 h < a1
      · rw [if_pos g3, if_neg (by omega)]
      · rw [if_neg g3, if_pos (show 0 ≤ (h : Int) ∧ (h : Int) < ((4 : Nat) : Int) by omega), w32i (x := c 53 h - a1) (by omega) (by omega)]
        by_cases g4 : c 53 h - a1 < a2
        · rw [if_pos g4, if_neg (by omega)]
        · rw [if_neg g4, if_pos (by omega)]
/-- what is put into a sheet of a sort -/
def cut (q v : Int) : Int := if q = 1 then w32 v else if q = 2 then w32 (w8 v) else v
theorem e_write {N : Nat} (c : St) {h i : Nat} {v : Int} (hh : h < 4) (hi : i < 40) (hr : r32 (c 52 h)) : d_x3_write N c (h : Int) (i : Int) v = some (up c 54 (h * 40 + i) (cut (c 52 h) v), 0) := by
  unfold d_x3_write
  rw [w32i (x := (h : Int)) (by omega) (by omega), if_pos (show 0 ≤ (h : Int) ∧ (h : Int) < ((4 : Nat) : Int) by omega), Int.toNat_natCast, w32r hr]
  have e34 : ∀ x : Int, d_x3_write_34 N c (h : Int) (i : Int) x = some (up c 54 (h * 40 + i) x, 0) := fun x => by
    unfold d_x3_write_34
    rw [w32i (x := (h : Int) * 40 + i) (by omega) (by omega), if_pos (by omega), show ((h : Int) * 40 + i).toNat = h * 40 + i by omega]
    rfl
  have e18 : ∀ x : Int, d_x3_write_18 N c (h : Int) (i : Int) v x = some (up c 54 (h * 40 + i) (if c 52 h = 2 then w32 (w8 v) else x), 0) := fun x => by
    unfold d_x3_write_18
    rw [w32i (x := (h : Int)) (by omega) (by omega), if_pos (show 0 ≤ (h : Int) ∧ (h : Int) < ((4 : Nat) : Int) by omega), Int.toNat_natCast, w32r hr]
    by_cases g : c 52 h = 2
    · rw [if_pos g, if_pos g, bd_eq, e34]
    · rw [if_neg g, if_neg g, e34]
  unfold cut
  by_cases g : c 52 h = 1
  · rw [if_pos g, if_pos g, bd_eq, e18, if_neg (by omega)]
  · rw [if_neg g, if_neg g, e18]
theorem RSh.r52 {c r : St} (H : RSh c r) {h : Nat} (hh : h < 4) : r32 (c 52 h) := by
  unfold r32
  rcases H h hh with z | z <;> omega
theorem RSh.r126 {c r : St} (H : RSh c r) {h : Nat} (hh : h < 4) : r 126 h = if c 52 h = -1 then 0 else 1 := by
  rcases H h hh with z | z
  · rw [if_pos z.1, z.2]
  · rw [if_neg (by omega), z.2.1]
/-- put() on both sides -/
theorem r_put {N : Nat} {c r : St} {a0 a1 a2 : Int} (h0 : r32 a0) (h1 : r32 a1) (H : RSh c r) : ∃ c' r' v, d_x7_put N c a0 a1 a2 = some (c', v) ∧ d_x8_put N r a0 a1 a2 = some (r', v) ∧ RSh c' r' ∧ Fr cSh c c' ∧ Fr mSh r r' := by
  unfold d_x7_put d_x8_put
  rw [e_isSheet7 N c h0, e_isSheet8 N r h0, bI_some, bI_some, wz, iz, iz]
  by_cases hs : 0 ≤ a0 ∧ a0 < 4
  · rw [if_pos hs, if_pos hs]
    obtain ⟨h, rfl⟩ : ∃ h : Nat, a0 = h := ⟨a0.toNat, by omega⟩
    have hh : h < 4 := by omega
    have g4 : 0 ≤ (h : Int) ∧ (h : Int) < ((4 : Nat) : Int) := by omega
    rw [e_miss c hh (H.r52 hh), bI_some, wz, iz, w32i (x := (h : Int)) (by omega) (by omega), if_pos g4, Int.toNat_natCast, H.r126 hh]
    by_cases hm : c 52 h = -1
    · rw [if_pos hm, if_pos hm, w32_0, if_pos rfl]
      exact ⟨c, r, -11, rfl, rfl, H, Fr.refl, Fr.refl⟩
    · rcases H h hh with z | ⟨z1, z2, z3, z4, z5, z6, z7⟩
      · exact absurd z.1 hm
      · rw [if_neg hm, if_neg hm, w32_1, if_neg (show ¬ (1 : Int) = 0 by decide), if_pos g4, e_spans c hh h1 (by unfold r32; omega) ⟨z5, z6⟩, bI_some, wz, iz, z4, w32i (x := c 53 h - 1) (by omega) (by omega), w32r h1, e_in32 N r h1 (by unfold r32; omega) (by unfold r32; omega), bI_some, wz, iz]
        by_cases hi : 0 ≤ a1 ∧ a1 < c 53 h
        · rw [if_pos (show 0 ≤ a1 ∧ 0 ≤ (1 : Int) ∧ a1 + 1 ≤ c 53 h by omega), if_pos (show 0 ≤ a1 ∧ a1 ≤ c 53 h - 1 by omega)]
          obtain ⟨i, rfl⟩ : ∃ i : Nat, a1 = i := ⟨a1.toNat, by omega⟩
          rw [e_write c hh (by omega) (H.r52 hh), if_pos g4, if_pos g4, z3, w32r (H.r52 hh)]
          have e86 : ∀ x : Int, d_x8_put_86 N r x (40 * (h : Int) + i) = some (up r 129 (h * 40 + i) x, 1) := fun x => by
            unfold d_x8_put_86
            rw [w32i (x := 40 * (h : Int) + i) (by omega) (by omega), if_pos (by omega), show (40 * (h : Int) + i).toNat = h * 40 + i by omega]
            rfl
          rw [e86, e86, e86]
          refine ⟨_, up r 129 (h * 40 + i) (cut (c 52 h) a2), 1, rfl, ?_, ?_, Fr.up (by unfold cSh; omega), Fr.up (by unfold mSh; omega)⟩
          · unfold cut
            rcases z1 with z1 | z1 | z1 <;> rw [z1] <;> rfl
          · intro k hk
            rcases H k hk with y | ⟨y1, y2, y3, y4, y5, y6, y7⟩
            · left; simpa [up_app] using y
            · right
              refine ⟨by simpa [up_app] using y1, by simpa [up_app] using y2, by simpa [up_app] using y3, by simpa [up_app] using y4, by simpa [up_app] using y5, by simpa [up_app] using y6, ?_⟩
              intro j hj
              have hj : (j : Int) < c 53 k := by simpa [up_app] using hj
              have := y7 j hj
              simp only [up_app]
              by_cases e : k * 40 + j = h * 40 + i
              · simp [e]
              · simpa [e] using this
        · rw [if_neg (show ¬ (0 ≤ a1 ∧ 0 ≤ (1 : Int) ∧ a1 + 1 ≤ c 53 h) by omega), if_neg (show ¬ (0 ≤ a1 ∧ a1 ≤ c 53 h - 1) by omega)]
          exact ⟨c, r, -12, rfl, rfl, H, Fr.refl, Fr.refl⟩
  · rw [if_neg hs, if_neg hs]
    exact ⟨c, r, -2, rfl, rfl, H, Fr.refl, Fr.refl⟩
end
section
/-! two runs side by side -/
def Two (A B : Option Rs) (Q : St → St → Int → Prop) : Prop := ∃ c r v, A = some (c, v) ∧ B = some (r, v) ∧ Q c r v
theorem Two.ret {c r : St} {v w : Int} {Q : St → St → Int → Prop} (h : w = v) (q : Q c r v) : Two (some (c, v)) (some (r, w)) Q := ⟨c, r, v, rfl, by rw [h], q⟩
theorem Two.iL {p : Prop} [Decidable p] {A A' B : Option Rs} {Q : St → St → Int → Prop} (h : p) (k : Two A B Q) : Two (if p then A else A') B Q := by rw [if_pos h]; exact k
theorem Two.eL {p : Prop} [Decidable p] {A A' B : Option Rs} {Q : St → St → Int → Prop} (h : ¬ p) (k : Two A' B Q) : Two (if p then A else A') B Q := by rw [if_neg h]; exact k
theorem Two.iR {p : Prop} [Decidable p] {A A' B : Option Rs} {Q : St → St → Int → Prop} (h : p) (k : Two B A Q) : Two B (if p then A else A') Q := by rw [if_pos h]; exact k
theorem Two.eR {p : Prop} [Decidable p] {A A' B : Option Rs} {Q : St → St → Int → Prop} (h : ¬ p) (k : Two B A' Q) : Two B (if p then A else A') Q := by rw [if_neg h]; exact k
theorem Two.bdL {α : Type} {x : α} {f : α → Option Rs} {B : Option Rs} {Q : St → St → Int → Prop} (k : Two (f x) B Q) : Two (bd x f) B Q := k
theorem Two.bdR {α : Type} {x : α} {f : α → Option Rs} {B : Option Rs} {Q : St → St → Int → Prop} (k : Two B (f x) Q) : Two B (bd x f) Q := k
theorem Two.cL {s : St} {v : Int} {K : St → Int → Option Rs} {A B : Option Rs} {Q : St → St → Int → Prop} (h : A = some (s, v)) (k : Two (K s v) B Q) : Two (bI A K) B Q := by rw [h]; exact k
theorem Two.cR {s : St} {v : Int} {K : St → Int → Option Rs} {A B : Option Rs} {Q : St → St → Int → Prop} (h : A = some (s, v)) (k : Two B (K s v) Q) : Two B (bI A K) Q := by rw [h]; exact k
theorem Two.vL {s : St} {v : Int} {K : St → Option Rs} {A B : Option Rs} {Q : St → St → Int → Prop} (h : A = some (s, v)) (k : Two (K s) B Q) : Two (bV A K) B Q := by rw [h]; exact k
theorem Two.vR {s : St} {v : Int} {K : St → Option Rs} {A B : Option Rs} {Q : St → St → Int → Prop} (h : A = some (s, v)) (k : Two B (K s) Q) : Two B (bV A K) Q := by rw [h]; exact k
theorem Two.call {K L : St → Int → Option Rs} {A B : Option Rs} {Q Q' : St → St → Int → Prop} (h : Two A B Q') (k : ∀ c r v, Q' c r v → Two (K c v) (L r v) Q) : Two (bI A K) (bI B L) Q := by
  obtain ⟨c, r, v, h1, h2, h3⟩ := h
  rw [h1, h2]
  exact k c r v h3
theorem Two.callV {K L : St → Option Rs} {A B : Option Rs} {Q Q' : St → St → Int → Prop} (h : Two A B Q') (k : ∀ c r v, Q' c r v → Two (K c) (L r) Q) : Two (bV A K) (bV B L) Q := by
  obtain ⟨c, r, v, h1, h2, h3⟩ := h
  rw [h1, h2]
  exact k c r v h3
theorem Two.mono {A B : Option Rs} {Q Q' : St → St → Int → Prop} (h : Two A B Q) (k : ∀ c r v, Q c r v → Q' c r v) : Two A B Q' := by
  obtain ⟨c, r, v, h1, h2, h3⟩ := h
  exact ⟨c, r, v, h1, h2, k c r v h3⟩
theorem Two.tail {A B : Option Rs} {Q : St → St → Int → Prop} (h : Two A B Q) : Two (bI A fun s v => some (s, v)) (bI B fun s v => some (s, v)) Q := Two.call h (fun _ _ _ q => Two.ret rfl q)
theorem Two.tailL {A B : Option Rs} {Q : St → St → Int → Prop} (h : Two A B Q) : Two (bI A fun s v => some (s, v)) B Q := by
  obtain ⟨c, r, v, h1, h2, h3⟩ := h
  exact ⟨c, r, v, by rw [h1]; rfl, h2, h3⟩
theorem Two.tailR {A B : Option Rs} {Q : St → St → Int → Prop} (h : Two A B Q) : Two A (bI B fun s v => some (s, v)) Q := by
  obtain ⟨c, r, v, h1, h2, h3⟩ := h
  exact ⟨c, r, v, h1, by rw [h2]; rfl, h3⟩
theorem and01 : and32 0 1 = 0 := rfl
theorem and11 : and32 1 1 = 1 := rfl
theorem w8i {x : Int} (h1 : -128 ≤ x) (h2 : x ≤ 127) : w8 x = x := Int.bmod_eq_of_le (by omega) (by omega)
end
section
/-! texts T (class 18 .. 25, model 78 .. 85) -/
def VP (T : St) (p : Nat) : Prop := p < 192 ∧ ((p % 24 : Nat) : Int) < T 18 (p / 24)
def WFp (T : St) (p : Nat) : Prop := (T 79 p = T 19 p ∧ T 80 p = T 20 p ∧ T 81 p = T 23 p ∧ T 84 p = T 24 p ∧ 0 ≤ T 19 p ∧ T 19 p ≤ 13 ∧ 1 ≤ T 23 p ∧ T 23 p ≤ 24)
  ∧ (T 19 p ≠ 2 → T 82 p = T 21 p ∧ -9999 ≤ T 21 p ∧ T 21 p ≤ 9999)
  ∧ (T 19 p = 0 → 0 ≤ T 21 p ∧ T 21 p ≤ 7)
  ∧ (T 19 p = 1 → T 83 p = T 22 p ∧ -9999 ≤ T 22 p ∧ T 22 p ≤ 9999)
  ∧ (T 19 p = 2 → 1 ≤ T 24 p ∧ T 24 p ≤ 8 ∧ ∀ i : Nat, (i : Int) < T 24 p → T 85 (8 * p + i) = T 25 (8 * p + i))
  ∧ (T 19 p ≠ 2 → T 24 p = 0)
  ∧ (T 19 p = 8 ∨ T 19 p = 9 → 0 ≤ T 21 p)
  ∧ (T 19 p = 13 → 1 ≤ T 21 p ∧ T 21 p ≤ 9)
  ∧ (T 19 p = 3 ∨ T 19 p = 6 ∨ T 19 p = 10 → T 20 p = 42 ∨ T 20 p = 43 ∨ T 20 p = 45 ∨ T 20 p = 47 ∨ T 20 p = 37)
  ∧ (T 19 p = 4 ∨ T 19 p = 5 → T 20 p = 60 ∨ T 20 p = 61 ∨ T 20 p = 62 ∨ T 20 p = 37)
  ∧ (¬ (T 19 p = 3 ∨ T 19 p = 4 ∨ T 19 p = 5 ∨ T 19 p = 6 ∨ T 19 p = 10) → T 20 p = 0)
  ∧ (3 ≤ T 19 p → VP T (p + 1) ∧ (p + 1) / 24 = p / 24)
  ∧ (T 19 p = 6 ∨ T 19 p = 7 → VP T (p + 1 + (T 23 (p + 1)).toNat) ∧ (p + 1 + (T 23 (p + 1)).toNat) / 24 = p / 24)
def WT (T : St) : Prop := (∀ s : Nat, s < 8 → T 78 s = T 18 s ∧ 0 ≤ T 18 s ∧ T 18 s ≤ 24) ∧ ∀ p, VP T p → WFp T p
/-- the part that is asked where a name is -/
def rs (T : St) : Nat → Nat → Int
  | 0, _ => -21
  | n + 1, p => if T 19 p = 0 then (if T 18 (T 21 p).toNat = 0 then -23 else rs T n (24 * (T 21 p).toNat)) else (p : Int)
def res (T : St) (p : Nat) : Int := rs T 9 p
def ct (c T : St) : Prop := ∀ a k, 18 ≤ a → a ≤ 25 → c a k = T a k
def rt (r T : St) : Prop := ∀ a k, 78 ≤ a → a ≤ 85 → r a k = T a k
theorem VP.str {T : St} (W : WT T) {s : Nat} (hs : s < 8) (h : T 18 s ≠ 0) : VP T (24 * s) := by
  have := W.1 s hs
  refine ⟨by omega, ?_⟩
  rw [show 24 * s / 24 = s by omega, show 24 * s % 24 = 0 by omega]
  omega
theorem rs_ok {T : St} (W : WT T) : ∀ n p, VP T p → (∃ q : Nat, rs T n p = q ∧ VP T q ∧ T 19 q ≠ 0) ∨ rs T n p = -21 ∨ rs T n p = -23 := by
  intro n
  induction n with
  | zero => intro p _; right; left; rfl
  | succ n ih =>
    intro p hp
    unfold rs
    by_cases h : T 19 p = 0
    · rw [if_pos h]
      by_cases h2 : T 18 (T 21 p).toNat = 0
      · rw [if_pos h2]; omega
      · rw [if_neg h2]
        have := (W.2 p hp).2.2.1 h
        exact ih _ (VP.str W (by omega) h2)
    · rw [if_neg h]
      exact Or.inl ⟨p, rfl, hp, h⟩
theorem res_ok {T : St} (W : WT T) {p : Nat} (hp : VP T p) : (∃ q : Nat, res T p = q ∧ VP T q ∧ T 19 q ≠ 0) ∨ res T p = -21 ∨ res T p = -23 := rs_ok W 9 p hp
theorem res_self {T : St} {p : Nat} (h : T 19 p ≠ 0) : res T p = p := if_neg h
theorem e_behindL {T c : St} (W : WT T) (hc : ct c T) (N : Nat) : ∀ h n p, VP T p → h < n → h ≤ 9 → d_x4_behindNames_4L N n c (p : Int) ((9 : Int) - h) = some (c, rs T h p) := by
  intro h
  induction h with
  | zero =>
    intro n p _ hn _
    obtain ⟨n, rfl⟩ : ∃ m, n = m + 1 := ⟨n - 1, by omega⟩
    show d_x4_behindNames_4 N (d_x4_behindNames_4L N n) c p _ = _
    unfold d_x4_behindNames_4
    rw [if_pos (by rw [w32i (by omega) (by omega)]; omega)]
    rfl
  | succ h ih =>
    intro n p hp hn h9
    obtain ⟨n, rfl⟩ : ∃ m, n = m + 1 := ⟨n - 1, by omega⟩
    have hp1 := hp.1
    have w := W.2 p hp
    have w0 := w.2.2.1
    have w1 := w.1
    show d_x4_behindNames_4 N (d_x4_behindNames_4L N n) c p _ = _
    unfold d_x4_behindNames_4 rs
    simp only [bd_eq]
    rw [w32i (x := (9 : Int) - ((h + 1 : Nat) : Int)) (by omega) (by omega), w32i (x := (p : Int)) (by omega) (by omega), w32i (x := ((192 : Nat) : Int)) (by omega) (by omega), Int.toNat_natCast, hc 19 p (by omega) (by omega), hc 21 p (by omega) (by omega), if_neg (show ¬ (8 < (9 : Int) - ((h + 1 : Nat) : Int)) by omega), if_neg (show ¬ (p : Int) < 0 by omega), if_pos (show (p : Int) < ((192 : Nat) : Int) by omega), if_pos (show 0 ≤ (p : Int) ∧ (p : Int) < ((192 : Nat) : Int) by omega), w32i (x := T 19 p) (by omega) (by omega)]
    by_cases hz : T 19 p = 0
    · have := w0 hz
      rw [if_pos hz, if_pos hz, if_pos (show 0 ≤ (p : Int) ∧ (p : Int) < ((192 : Nat) : Int) by omega), w32i (x := T 21 p) (by omega) (by omega), if_neg (by omega), if_pos (by omega), if_pos (by omega), hc 18 _ (by omega) (by omega)]
      obtain ⟨s, hs⟩ : ∃ s : Nat, T 21 p = s := ⟨(T 21 p).toNat, by omega⟩
      have w8 := W.1 s (by omega)
      rw [hs, Int.toNat_natCast, w32i (x := T 18 s) (by omega) (by omega)]
      by_cases h2 : T 18 s = 0
      · rw [if_pos h2, if_pos h2]
      · rw [if_neg h2, if_neg h2]
        have := ih n (24 * s) (VP.str W (by omega) h2) (by omega) (by omega)
        rw [← this]
        congr 1 <;> omega
    · rw [if_neg hz, if_neg hz]
theorem e_behind {T c : St} (W : WT T) (hc : ct c T) {N : Nat} (hN : 100 ≤ N) {p : Nat} (hp : VP T p) : d_x4_behindNames N c (p : Int) = some (c, res T p) := e_behindL W hc N 9 N p hp (by omega) (by omega)
theorem e_followL {T r : St} (W : WT T) (hr : rt r T) (N : Nat) : ∀ h n p, VP T p → h < n → h ≤ 9 → d_x8_followed_4L N n r (p : Int) ((9 : Int) - h) = some (r, rs T h p) := by
  intro h
  induction h with
  | zero =>
    intro n p _ hn _
    obtain ⟨n, rfl⟩ : ∃ m, n = m + 1 := ⟨n - 1, by omega⟩
    show d_x8_followed_4 N (d_x8_followed_4L N n) r p _ = _
    unfold d_x8_followed_4
    rw [if_pos (by rw [w32i (by omega) (by omega)]; omega)]
    rfl
  | succ h ih =>
    intro n p hp hn h9
    obtain ⟨n, rfl⟩ : ∃ m, n = m + 1 := ⟨n - 1, by omega⟩
    have hp1 := hp.1
    have w := W.2 p hp
    have w0 := w.2.2.1
    have w2 := w.2.1
    have w1 := w.1
    show d_x8_followed_4 N (d_x8_followed_4L N n) r p _ = _
    unfold d_x8_followed_4 rs
    simp only [bd_eq]
    rw [w32i (x := (9 : Int) - ((h + 1 : Nat) : Int)) (by omega) (by omega), w32i (x := (p : Int)) (by omega) (by omega), Int.toNat_natCast, hr 79 p (by omega) (by omega), hr 82 p (by omega) (by omega), if_neg (show ¬ (8 < (9 : Int) - ((h + 1 : Nat) : Int)) by omega), if_pos (show 0 ≤ (p : Int) ∧ (p : Int) < ((192 : Nat) : Int) by omega), w1.1, w32i (x := T 19 p) (by omega) (by omega)]
    by_cases hz : T 19 p = 0
    · have := w0 hz
      have := w2 (by omega)
      rw [if_pos hz, if_pos hz, if_pos (show 0 ≤ (p : Int) ∧ (p : Int) < ((192 : Nat) : Int) by omega), this.1, w32i (x := T 21 p) (by omega) (by omega), if_pos (by omega), hr 78 _ (by omega) (by omega)]
      obtain ⟨s, hs⟩ : ∃ s : Nat, T 21 p = s := ⟨(T 21 p).toNat, by omega⟩
      have w8 := W.1 s (by omega)
      rw [hs, Int.toNat_natCast, w8.1, w32i (x := T 18 s) (by omega) (by omega)]
      by_cases h2 : T 18 s = 0
      · rw [if_pos h2, if_pos h2]
      · rw [if_neg h2, if_neg h2]
        have := ih n (24 * s) (VP.str W (by omega) h2) (by omega) (by omega)
        rw [← this]
        congr 1 <;> omega
    · rw [if_neg hz, if_neg hz]
theorem e_follow {T r : St} (W : WT T) (hr : rt r T) {N : Nat} (hN : 100 ≤ N) {p : Nat} (hp : VP T p) : d_x8_followed N r (p : Int) = some (r, res T p) := e_followL W hr N 9 N p hp (by omega) (by omega)
end
section
/-! what is told: class's table t against the model's -/
def An (v : Int) : Prop := v = 1 ∨ v = 0 ∨ v = -6 ∨ (-24 ≤ v ∧ v ≤ -21)
def TP (t : Nat) (c r : St) (p : Nat) : Prop := r 86 p = c (t + 1) p ∧ 0 ≤ c (t + 1) p ∧ c (t + 1) p ≤ 64 ∧ ((c (t + 3) p = 1 ∧ r 87 p = 0) ∨ (c (t + 3) p = 0 ∧ r 87 p = 1) ∨ (-24 ≤ c (t + 3) p ∧ c (t + 3) p ≤ -21 ∧ r 87 p = c (t + 3) p)) ∧ r 88 p = c (t + 4) p ∧ (c (t + 4) p = 0 ∨ c (t + 4) p = 1)
def TM (t : Nat) (c r : St) (p i : Nat) : Prop := r 91 (64 * p + i) = c (t + 7) (64 * p + i) ∧ (c (t + 7) (64 * p + i) = 0 ∨ c (t + 7) (64 * p + i) = 1 ∨ c (t + 7) (64 * p + i) = 2 ∨ (-24 ≤ c (t + 7) (64 * p + i) ∧ c (t + 7) (64 * p + i) ≤ -21)) ∧ (c (t + 7) (64 * p + i) ≠ 0 → (i : Int) < c (t + 1) p) ∧ (c (t + 7) (64 * p + i) = 1 → r 92 (64 * p + i) = c (t + 8) (64 * p + i))
def NX (t : Nat) (T c : St) (p : Nat) (m : Int) : Prop := (T 19 p = 4 ∨ T 19 p = 11) → (m = 0 → c (t + 5) p = 0) ∧ ∀ i : Nat, (i : Int) + 1 = m → c (t + 5) p = c (t + 9) (64 * p + i) + 1
def TN (t : Nat) (T c r : St) (p : Nat) : Prop := (c (t + 4) p = 0 → NX t T c p (c (t + 1) p)) ∧ (T 19 p = 7 → r 89 p = c (t + 5) p ∧ r 90 p = c (t + 6) p ∧ 0 ≤ c (t + 5) p ∧ c (t + 5) p ≤ 64 ∧ 0 ≤ c (t + 6) p ∧ c (t + 6) p ≤ 64)
def KP (t : Nat) (T c r : St) (p i : Nat) : Prop := (T 19 p = 4 ∨ T 19 p = 11 → r 93 (64 * p + i) = c (t + 9) (64 * p + i) ∧ 0 ≤ c (t + 9) (64 * p + i) ∧ c (t + 9) (64 * p + i) ≤ 63) ∧ (T 19 p = 7 → (0 ≤ c (t + 9) (64 * p + i) ∧ c (t + 9) (64 * p + i) < 64 ∧ r 93 (64 * p + i) = 2 * c (t + 9) (64 * p + i)) ∨ (64 ≤ c (t + 9) (64 * p + i) ∧ c (t + 9) (64 * p + i) < 128 ∧ r 93 (64 * p + i) = 2 * (c (t + 9) (64 * p + i) - 64) + 1))
def Td (t : Nat) (T c : St) (p : Nat) (i : Int) : Prop := ∃ q : Nat, res T p = q ∧ q < 192 ∧ 0 ≤ i ∧ i < c (t + 1) q
def SO (t : Nat) (T c : St) (p i : Nat) : Prop := (T 19 p = 3 ∨ T 19 p = 5 ∨ T 19 p = 6 ∨ T 19 p = 8 ∨ T 19 p = 10 → Td t T c (p + 1) i)
  ∧ (T 19 p = 6 → Td t T c (p + 1 + (T 23 (p + 1)).toNat) i)
  ∧ (T 19 p = 9 → Td t T c (p + 1) (i + T 21 p))
  ∧ (T 19 p = 12 → 1 ≤ i → Td t T c (p + 1) (i - 1))
  ∧ (T 19 p = 13 → Td t T c (p + 1) (T 21 p * (i + 1) - 1))
  ∧ (T 19 p = 4 ∨ T 19 p = 11 → Td t T c (p + 1) (c (t + 9) (64 * p + i)))
  ∧ (T 19 p = 7 → (c (t + 9) (64 * p + i) < 64 → Td t T c (p + 1) (c (t + 9) (64 * p + i))) ∧ (64 ≤ c (t + 9) (64 * p + i) → Td t T c (p + 1 + (T 23 (p + 1)).toNat) (c (t + 9) (64 * p + i) - 64)))
  ∧ (T 19 p = 2 → (i : Int) < T 24 p)
/-- how many marks are told -/
def cn (f : Nat → Int) : Nat → Int
  | 0 => 0
  | n + 1 => cn f n + (if f n = 0 ∨ f n = 2 then 0 else 1)
def HC (t : Nat) (c : St) (p : Nat) : Prop := c (t + 2) p = cn (fun i => c (t + 7) (64 * p + i)) 64
def MT (t : Nat) (T c : St) : Prop := 0 ≤ c t 11 ∧ c t 11 ≤ 192
  ∧ (∀ m : Nat, (m : Int) < c t 11 → 0 ≤ c (t + 11) m ∧ c (t + 11) m < 192 ∧ c (t + 10) (c (t + 11) m).toNat = 1)
  ∧ (∀ m m' : Nat, (m : Int) < c t 11 → (m' : Int) < c t 11 → c (t + 11) m = c (t + 11) m' → m = m')
  ∧ (∀ p : Nat, p < 192 → (c (t + 10) p = 0 ∧ c (t + 1) p = 0 ∧ c (t + 2) p = 0 ∧ c (t + 3) p = 1 ∧ c (t + 4) p = 0 ∧ c (t + 5) p = 0 ∧ c (t + 6) p = 0) ∨ (c (t + 10) p = 1 ∧ VP T p ∧ ∃ m : Nat, (m : Int) < c t 11 ∧ c (t + 11) m = p))
def KB (t : Nat) (c : St) : Prop := ∀ k : Nat, k < 12288 → -128 ≤ c (t + 9) k ∧ c (t + 9) k ≤ 127
def TR (t : Nat) (c r : St) : Prop := c 50 1 = (t : Int) ∧ r 77 37 = c 50 2 ∧ r 77 36 = c 50 3 ∧ 0 ≤ c 50 3 ∧ c 50 3 ≤ c 50 2 ∧ c 50 2 ≤ 99
/-- all but the runs -/
def TS (t : Nat) (T c r : St) : Prop := (∀ p, p < 192 → TP t c r p) ∧ (∀ p i, p < 192 → i < 64 → TM t c r p i) ∧ (∀ p, VP T p → TN t T c r p) ∧ (∀ p i : Nat, VP T p → (i : Int) < c (t + 1) p → KP t T c r p i ∧ SO t T c p i) ∧ (∀ p, p < 192 → HC t c p) ∧ KB t c
def TI (t : Nat) (T c r : St) : Prop := (WT T ∧ ct c T ∧ rt r T) ∧ TR t c r ∧ MT t T c ∧ TS t T c r
theorem TI.W {t : Nat} {T c r : St} (H : TI t T c r) : WT T := H.1.1
theorem TI.ct {t : Nat} {T c r : St} (H : TI t T c r) : ct c T := H.1.2.1
theorem TI.rt {t : Nat} {T c r : St} (H : TI t T c r) : rt r T := H.1.2.2
theorem TI.R {t : Nat} {T c r : St} (H : TI t T c r) : TR t c r := H.2.1
theorem TI.T {t : Nat} {T c r : St} (H : TI t T c r) : MT t T c := H.2.2.1
theorem TI.S {t : Nat} {T c r : St} (H : TI t T c r) : TS t T c r := H.2.2.2
theorem TI.P {t : Nat} {T c r : St} (H : TI t T c r) {p : Nat} (hp : p < 192) : TP t c r p := H.S.1 p hp
theorem TI.M {t : Nat} {T c r : St} (H : TI t T c r) {p i : Nat} (hp : p < 192) (hi : i < 64) : TM t c r p i := H.S.2.1 p i hp hi
theorem TI.N {t : Nat} {T c r : St} (H : TI t T c r) {p : Nat} (hp : VP T p) : TN t T c r p := H.S.2.2.1 p hp
theorem TI.K {t : Nat} {T c r : St} (H : TI t T c r) {p i : Nat} (hp : VP T p) (hi : (i : Int) < c (t + 1) p) : KP t T c r p i ∧ SO t T c p i := H.S.2.2.2.1 p i hp hi
theorem TI.H {t : Nat} {T c r : St} (H : TI t T c r) {p : Nat} (hp : p < 192) : HC t c p := H.S.2.2.2.2.1 p hp
theorem TI.B {t : Nat} {T c r : St} (H : TI t T c r) : KB t c := H.S.2.2.2.2.2
/-- how a table goes on: x may set what is kept next -/
def Mo (t x : Nat) (c c' : St) : Prop := (∀ a k, ¬ (a = 50 ∨ (t ≤ a ∧ a ≤ t + 11)) → c' a k = c a k) ∧ (∀ k, k ≠ 3 → k ≠ 4 → c' 50 k = c 50 k) ∧ c 50 3 ≤ c' 50 3
  ∧ (∀ p, p < 192 → c (t + 1) p ≤ c' (t + 1) p ∧ c' (t + 4) p = c (t + 4) p ∧ (c (t + 10) p = 1 → c' (t + 10) p = 1) ∧ (c (t + 4) p = 1 → c' (t + 1) p = c (t + 1) p ∧ c' (t + 3) p = c (t + 3) p ∧ (p ≠ x → c' (t + 5) p = c (t + 5) p ∧ c' (t + 6) p = c (t + 6) p)))
  ∧ (∀ p i : Nat, p < 192 → i < 64 → (c (t + 7) (64 * p + i) = 2 ↔ c' (t + 7) (64 * p + i) = 2) ∧ ((i : Int) < c (t + 1) p → c' (t + 9) (64 * p + i) = c (t + 9) (64 * p + i)))
def Fm (r r' : St) : Prop := (∀ a k, ¬ (a = 77 ∨ (86 ≤ a ∧ a ≤ 93)) → r' a k = r a k) ∧ ∀ k, k ≠ 36 → k ≠ 38 → r' 77 k = r 77 k
theorem Mo.refl {t x : Nat} {c : St} : Mo t x c c := ⟨fun _ _ _ => rfl, fun _ _ _ => rfl, Int.le_refl _, fun _ _ => ⟨Int.le_refl _, rfl, fun h => h, fun _ => ⟨rfl, rfl, fun _ => ⟨rfl, rfl⟩⟩⟩, fun _ _ _ _ => ⟨Iff.rfl, fun _ => rfl⟩⟩
theorem Fm.refl {r : St} : Fm r r := ⟨fun _ _ _ => rfl, fun _ _ _ => rfl⟩
theorem Fm.trans {r s u : St} (h : Fm r s) (g : Fm s u) : Fm r u := ⟨fun a k z => (g.1 a k z).trans (h.1 a k z), fun k z y => (g.2 k z y).trans (h.2 k z y)⟩
theorem Mo.trans {t x : Nat} {c d e : St} (h : Mo t x c d) (g : Mo t x d e) : Mo t x c e := by
  obtain ⟨h1, h2, h3, h4, h5⟩ := h
  obtain ⟨g1, g2, g3, g4, g5⟩ := g
  refine ⟨fun a k z => (g1 a k z).trans (h1 a k z), fun k z y => (g2 k z y).trans (h2 k z y), Int.le_trans h3 g3, ?_, ?_⟩
  · intro p hp
    obtain ⟨a1, a2, a3, a4⟩ := h4 p hp
    obtain ⟨b1, b2, b3, b4⟩ := g4 p hp
    refine ⟨by omega, by omega, fun z => b3 (a3 z), fun z => ?_⟩
    obtain ⟨a5, a6, a7⟩ := a4 z
    obtain ⟨b5, b6, b7⟩ := b4 (by omega)
    exact ⟨by omega, by omega, fun y => ⟨(b7 y).1.trans (a7 y).1, (b7 y).2.trans (a7 y).2⟩⟩
  · intro p i hp hi
    have a1 := (h4 p hp).1
    obtain ⟨a2, a3⟩ := h5 p i hp hi
    obtain ⟨b2, b3⟩ := g5 p i hp hi
    exact ⟨a2.trans b2, fun z => (b3 (by omega)).trans (a3 z)⟩
theorem Mo.any {t x : Nat} {c d : St} (h : Mo t 192 c d) : Mo t x c d := by
  obtain ⟨h1, h2, h3, h4, h5⟩ := h
  refine ⟨h1, h2, h3, fun p hp => ?_, h5⟩
  obtain ⟨a1, a2, a3, a4⟩ := h4 p hp
  refine ⟨a1, a2, a3, fun z => ?_⟩
  obtain ⟨a5, a6, a7⟩ := a4 z
  exact ⟨a5, a6, fun _ => a7 (by omega)⟩
theorem Td.mo {t : Nat} {T c c' : St} {p : Nat} {i : Int} (h : Td t T c p i) (g : ∀ q, q < 192 → c (t + 1) q ≤ c' (t + 1) q) : Td t T c' p i := by
  obtain ⟨q, h1, h2, h3, h4⟩ := h
  have := g q h2
  exact ⟨q, h1, h2, h3, by omega⟩
theorem SO.mo {t : Nat} {T c c' : St} {p i : Nat} (h : SO t T c p i) (g : ∀ q, q < 192 → c (t + 1) q ≤ c' (t + 1) q) (e : c' (t + 9) (64 * p + i) = c (t + 9) (64 * p + i)) : SO t T c' p i := by
  obtain ⟨h1, h2, h3, h4, h5, h6, h7, h8⟩ := h
  unfold SO
  rw [e]
  exact ⟨fun z => (h1 z).mo g, fun z => (h2 z).mo g, fun z => (h3 z).mo g, fun z y => (h4 z y).mo g, fun z => (h5 z).mo g, fun z => (h6 z).mo g, fun z => ⟨fun y => ((h7 z).1 y).mo g, fun y => ((h7 z).2 y).mo g⟩, h8⟩
theorem cn_congr {f g : Nat → Int} : ∀ n : Nat, (∀ i, i < n → f i = g i) → cn f n = cn g n := by
  intro n
  induction n with
  | zero => intro _; rfl
  | succ n ih =>
    intro h
    show cn f n + _ = cn g n + _
    rw [ih (fun i hi => h i (by omega)), h n (by omega)]
theorem cn_set {f g : Nat → Int} {a : Nat} : ∀ n : Nat, a < n → (∀ i, i < n → i ≠ a → f i = g i) → cn f n + (if g a = 0 ∨ g a = 2 then 0 else 1) = cn g n + (if f a = 0 ∨ f a = 2 then 0 else 1) := by
  intro n
  induction n with
  | zero => intro h _; omega
  | succ n ih =>
    intro h e
    show cn f n + _ + _ = cn g n + _ + _
    by_cases hn : a = n
    · subst hn
      rw [cn_congr (f := f) (g := g) a (fun i hi => e i (by omega) (by omega))]
      omega
    · have := ih (by omega) (fun i hi => e i (by omega))
      rw [e n (by omega) (by omega)]
      omega
theorem cn_rng {f : Nat → Int} : ∀ n : Nat, 0 ≤ cn f n ∧ cn f n ≤ n := by
  intro n
  induction n with
  | zero => exact ⟨Int.le_refl _, Int.le_refl _⟩
  | succ n ih =>
    show 0 ≤ cn f n + (if f n = 0 ∨ f n = 2 then 0 else 1) ∧ cn f n + (if f n = 0 ∨ f n = 2 then 0 else 1) ≤ _
    split <;> omega
end
section
theorem ct.up {c T : St} {a j : Nat} {x : Int} (h : ct c T) (ha : ¬ (18 ≤ a ∧ a ≤ 25)) : ct (up c a j x) T := fun b k h1 h2 => (up_ne (by omega)).trans (h b k h1 h2)
theorem rt.up {r T : St} {a j : Nat} {x : Int} (h : rt r T) (ha : ¬ (78 ≤ a ∧ a ≤ 85)) : rt (up r a j x) T := fun b k h1 h2 => (up_ne (by omega)).trans (h b k h1 h2)
theorem TS.cong {t : Nat} {T c r c' r' : St} (H : TS t T c r) (e : ∀ a k, t + 1 ≤ a → a ≤ t + 9 → c' a k = c a k) (f : ∀ a k, 86 ≤ a → a ≤ 93 → r' a k = r a k) : TS t T c' r' := by
  have e1 := fun k => e (t + 1) k (by omega) (by omega)
  have e2 := fun k => e (t + 2) k (by omega) (by omega)
  have e3 := fun k => e (t + 3) k (by omega) (by omega)
  have e4 := fun k => e (t + 4) k (by omega) (by omega)
  have e5 := fun k => e (t + 5) k (by omega) (by omega)
  have e6 := fun k => e (t + 6) k (by omega) (by omega)
  have e7 := fun k => e (t + 7) k (by omega) (by omega)
  have e8 := fun k => e (t + 8) k (by omega) (by omega)
  have e9 := fun k => e (t + 9) k (by omega) (by omega)
  have f6 := fun k => f 86 k (by omega) (by omega)
  have f7 := fun k => f 87 k (by omega) (by omega)
  have f8 := fun k => f 88 k (by omega) (by omega)
  have f9 := fun k => f 89 k (by omega) (by omega)
  have f0 := fun k => f 90 k (by omega) (by omega)
  have f1 := fun k => f 91 k (by omega) (by omega)
  have f2 := fun k => f 92 k (by omega) (by omega)
  have f3 := fun k => f 93 k (by omega) (by omega)
  unfold TS TP TM TN NX KP SO Td HC KB at *
  simp only [e1, e2, e3, e4, e5, e6, e7, e8, e9, f6, f7, f8, f9, f0, f1, f2, f3]
  exact H
theorem MT.cong {t : Nat} {T c c' : St} (H : MT t T c) (e : ∀ a k, t ≤ a → a ≤ t + 11 → c' a k = c a k) : MT t T c' := by
  have e0 := fun k => e t k (by omega) (by omega)
  have e1 := fun k => e (t + 1) k (by omega) (by omega)
  have e2 := fun k => e (t + 2) k (by omega) (by omega)
  have e3 := fun k => e (t + 3) k (by omega) (by omega)
  have e4 := fun k => e (t + 4) k (by omega) (by omega)
  have e5 := fun k => e (t + 5) k (by omega) (by omega)
  have e6 := fun k => e (t + 6) k (by omega) (by omega)
  have e10 := fun k => e (t + 10) k (by omega) (by omega)
  have e11 := fun k => e (t + 11) k (by omega) (by omega)
  unfold MT at *
  simp only [e0, e1, e2, e3, e4, e5, e6, e10, e11]
  exact H
theorem MT.upd {t p : Nat} {T c c' : St} (H : MT t T c) (hm : c (t + 10) p = 1) (e0 : ∀ k, c' t k = c t k) (e10 : ∀ k, c' (t + 10) k = c (t + 10) k) (e11 : ∀ k, c' (t + 11) k = c (t + 11) k) (e : ∀ j q, 1 ≤ j → j ≤ 6 → q ≠ p → c' (t + j) q = c (t + j) q) : MT t T c' := by
  unfold MT at *
  simp only [e0, e10, e11]
  refine ⟨H.1, H.2.1, H.2.2.1, H.2.2.2.1, fun q hq => ?_⟩
  rcases H.2.2.2.2 q hq with z | z
  · have hne : q ≠ p := by
      intro h
      rw [h] at z
      omega
    rw [e 1 q (by omega) (by omega) hne, e 2 q (by omega) (by omega) hne, e 3 q (by omega) (by omega) hne, e 4 q (by omega) (by omega) hne, e 5 q (by omega) (by omega) hne, e 6 q (by omega) (by omega) hne]
    exact Or.inl z
  · exact Or.inr z
theorem TI.met {t : Nat} {T c r : St} (H : TI t T c r) {p : Nat} (hp : p < 192) (h : c (t + 4) p = 1 ∨ 0 < c (t + 1) p) : c (t + 10) p = 1 := by
  rcases H.T.2.2.2.2 p hp with z | z <;> omega
/-- one run more -/
theorem U_run {t : Nat} {T c r : St} (h2 : t = 26 ∨ t = 38) (H : TI t T c r) (hr : c 50 3 < c 50 2) {x y : Int} (hx : x = c 50 3 + 1) (hy : y = c 50 3 + 1) : TI t T (up c 50 3 x) (up r 77 36 y) ∧ Mo t 192 c (up c 50 3 x) ∧ Fm r (up r 77 36 y) := by
  have h := H.R
  unfold TR at h
  refine ⟨⟨⟨H.W, H.ct.up (by omega), H.rt.up (by omega)⟩, ?_, H.T.cong (fun a k _ _ => up_ne (by omega)), H.S.cong (fun a k _ _ => up_ne (by omega)) (fun a k _ _ => up_ne (by omega))⟩, ⟨fun a k z => up_ne (by omega), fun k _ _ => up_nj (by omega), ?_, ?_, ?_⟩, ⟨fun a k z => up_ne (by omega), fun k z _ => up_nj (by omega)⟩⟩
  · unfold TR
    simp (disch := omega) only [up_same, up_nj]
    omega
  · rw [up_same]; omega
  · intro p hp
    simp (disch := omega) only [up_ne]
    exact ⟨Int.le_refl _, trivial, fun h => h, fun _ => ⟨trivial, trivial, fun _ => ⟨trivial, trivial⟩⟩⟩
  · intro p i hp hi
    simp (disch := omega) only [up_ne]
    exact ⟨trivial, fun _ => trivial⟩
/-- another value in hand -/
theorem U_valL {t : Nat} {T c r : St} (h2 : t = 26 ∨ t = 38) (H : TI t T c r) (x : Int) : TI t T (up c 50 4 x) r ∧ Mo t 192 c (up c 50 4 x) := by
  have h := H.R
  unfold TR at h
  refine ⟨⟨⟨H.W, H.ct.up (by omega), H.rt⟩, ?_, H.T.cong (fun a k _ _ => up_ne (by omega)), H.S.cong (fun a k _ _ => up_ne (by omega)) (fun a k _ _ => rfl)⟩, ⟨fun a k z => up_ne (by omega), fun k _ _ => up_nj (by omega), ?_, ?_, ?_⟩⟩
  · unfold TR
    simp (disch := omega) only [up_nj]
    omega
  · rw [up_nj (by omega)]; omega
  · intro p hp
    simp (disch := omega) only [up_ne]
    exact ⟨Int.le_refl _, trivial, fun h => h, fun _ => ⟨trivial, trivial, fun _ => ⟨trivial, trivial⟩⟩⟩
  · intro p i hp hi
    simp (disch := omega) only [up_ne]
    exact ⟨trivial, fun _ => trivial⟩
theorem U_valR {t : Nat} {T c r : St} (h2 : t = 26 ∨ t = 38) (H : TI t T c r) (x : Int) : TI t T c (up r 77 38 x) ∧ Fm r (up r 77 38 x) := by
  have h := H.R
  unfold TR at h
  refine ⟨⟨⟨H.W, H.ct, H.rt.up (by omega)⟩, ?_, H.T, H.S.cong (fun a k _ _ => rfl) (fun a k _ _ => up_ne (by omega))⟩, ⟨fun a k z => up_ne (by omega), fun k z _ => up_nj (by omega)⟩⟩
  unfold TR
  simp (disch := omega) only [up_nj]
  omega
/-- telling begins -/
theorem U_tell {t : Nat} {T c r : St} (h2 : t = 26 ∨ t = 38) (H : TI t T c r) {p : Nat} (hp : p < 192) (hm : c (t + 10) p = 1) : TI t T (up c (t + 4) p 1) (up r 88 p 1) := by
  refine ⟨⟨H.W, H.ct.up (by omega), H.rt.up (by omega)⟩, ?_, H.T.upd hm (fun k => up_ne (by omega)) (fun k => up_ne (by omega)) (fun k => up_ne (by omega)) (fun j q _ _ h => up_nj h), ?_, ?_, ?_, ?_, ?_, ?_⟩
  · have h := H.R
    unfold TR at *
    simp (disch := omega) only [up_ne]
    exact h
  · intro q hq
    have h := H.P hq
    unfold TP at *
    by_cases e : q = p
    · subst e
      simp (disch := omega) only [up_ne, up_same, true_and, and_true, or_true, true_or, false_or, or_false]
      omega
    · simp (disch := omega) only [up_ne, up_nj]
      exact h
  · intro q i hq hi
    have h := H.M hq hi
    unfold TM at *
    simp (disch := omega) only [up_ne]
    exact h
  · intro q hq
    have h := H.N hq
    unfold TN NX at *
    by_cases e : q = p
    · subst e
      simp (disch := omega) only [up_ne, up_same]
      exact ⟨fun z => absurd z (by decide), h.2⟩
    · simp (disch := omega) only [up_ne, up_nj]
      exact h
  · intro q i hq hi
    rw [up_ne (by omega)] at hi
    have h := H.K hq hi
    unfold KP SO Td at *
    simp (disch := omega) only [up_ne]
    exact h
  · intro q hq
    have h := H.H hq
    unfold HC at *
    simp (disch := omega) only [up_ne]
    exact h
  · have h := H.B
    unfold KB at *
    simp (disch := omega) only [up_ne]
    exact h
/-- telling ends, DEAR -/
theorem U_dear {t : Nat} {T c r : St} (h2 : t = 26 ∨ t = 38) (H : TI t T c r) {p : Nat} (hp : p < 192) (hm : c (t + 10) p = 1) (hn : NX t T c p (c (t + 1) p)) : TI t T (up c (t + 4) p 0) (up r 88 p 0) := by
  refine ⟨⟨H.W, H.ct.up (by omega), H.rt.up (by omega)⟩, ?_, H.T.upd hm (fun k => up_ne (by omega)) (fun k => up_ne (by omega)) (fun k => up_ne (by omega)) (fun j q _ _ h => up_nj h), ?_, ?_, ?_, ?_, ?_, ?_⟩
  · have h := H.R
    unfold TR at *
    simp (disch := omega) only [up_ne]
    exact h
  · intro q hq
    have h := H.P hq
    unfold TP at *
    by_cases e : q = p
    · subst e
      simp (disch := omega) only [up_ne, up_same, true_and, and_true, or_true, true_or, false_or, or_false]
      omega
    · simp (disch := omega) only [up_ne, up_nj]
      exact h
  · intro q i hq hi
    have h := H.M hq hi
    unfold TM at *
    simp (disch := omega) only [up_ne]
    exact h
  · intro q hq
    have h := H.N hq
    unfold TN NX at *
    by_cases e : q = p
    · subst e
      simp (disch := omega) only [up_ne, up_same]
      exact ⟨fun _ => hn, h.2⟩
    · simp (disch := omega) only [up_ne, up_nj]
      exact h
  · intro q i hq hi
    rw [up_ne (by omega)] at hi
    have h := H.K hq hi
    unfold KP SO Td at *
    simp (disch := omega) only [up_ne]
    exact h
  · intro q hq
    have h := H.H hq
    unfold HC at *
    simp (disch := omega) only [up_ne]
    exact h
  · have h := H.B
    unfold KB at *
    simp (disch := omega) only [up_ne]
    exact h
/-- the part goes on no more -/
theorem U_over {t : Nat} {T c r : St} (h2 : t = 26 ∨ t = 38) (H : TI t T c r) {p : Nat} (hp : p < 192) (hm : c (t + 10) p = 1) {v w x : Int} (hv : (v = 0 ∧ w = 1) ∨ (-24 ≤ v ∧ v ≤ -21 ∧ w = v)) (hx : x = r 86 p) : TI t T (up c (t + 3) p v) (up (up r 86 p x) 87 p w) := by
  refine ⟨⟨H.W, H.ct.up (by omega), (H.rt.up (by omega)).up (by omega)⟩, ?_, H.T.upd hm (fun k => up_ne (by omega)) (fun k => up_ne (by omega)) (fun k => up_ne (by omega)) (fun j q _ _ h => up_nj h), ?_, ?_, ?_, ?_, ?_, ?_⟩
  · have h := H.R
    unfold TR at *
    simp (disch := omega) only [up_ne]
    exact h
  · intro q hq
    have h := H.P hq
    unfold TP at *
    by_cases e : q = p
    · subst e
      simp (disch := omega) only [up_ne, up_same, true_and, and_true, or_true, true_or, false_or, or_false]
      omega
    · simp (disch := omega) only [up_ne, up_nj]
      exact h
  · intro q i hq hi
    have h := H.M hq hi
    unfold TM at *
    simp (disch := omega) only [up_ne]
    exact h
  · intro q hq
    have h := H.N hq
    unfold TN NX at *
    simp (disch := omega) only [up_ne]
    exact h
  · intro q i hq hi
    rw [up_ne (by omega)] at hi
    have h := H.K hq hi
    unfold KP SO Td at *
    simp (disch := omega) only [up_ne]
    exact h
  · intro q hq
    have h := H.H hq
    unfold HC at *
    simp (disch := omega) only [up_ne]
    exact h
  · have h := H.B
    unfold KB at *
    simp (disch := omega) only [up_ne]
    exact h
/-- one place more; telling ends -/
theorem U_more {t : Nat} {T c r : St} (h2 : t = 26 ∨ t = 38) (H : TI t T c r) {p i : Nat} (hp : VP T p) (hm : c (t + 10) p = 1) (hi : c (t + 1) p = i) (hl : i < 64) (hg : c (t + 3) p = 1) (hn : NX t T c p (i + 1)) (hk : KP t T c r p i) (hs : SO t T c p i) {x y : Int} (hx : x = i + 1) (hy : y = i + 1) : TI t T (up (up c (t + 4) p 0) (t + 1) p x) (up (up (up r 88 p 0) 86 p y) 87 p 0) := by
  have hp1 := hp.1
  have g : ∀ q, q < 192 → c (t + 1) q ≤ (up (up c (t + 4) p 0) (t + 1) p x) (t + 1) q := by
    intro q hq
    by_cases e : q = p
    · subst e
      rw [up_same]; omega
    · rw [up_nj e, up_ne (by omega)]; exact Int.le_refl _
  refine ⟨⟨H.W, (H.ct.up (by omega)).up (by omega), ((H.rt.up (by omega)).up (by omega)).up (by omega)⟩, ?_, H.T.upd hm (fun k => by rw [up_ne (by omega), up_ne (by omega)]) (fun k => by rw [up_ne (by omega), up_ne (by omega)]) (fun k => by rw [up_ne (by omega), up_ne (by omega)]) (fun j q _ _ h => by rw [up_nj h, up_nj h]), ?_, ?_, ?_, ?_, ?_, ?_⟩
  · have h := H.R
    unfold TR at *
    simp (disch := omega) only [up_ne]
    exact h
  · intro q hq
    have h := H.P hq
    unfold TP at *
    by_cases e : q = p
    · subst e
      simp (disch := omega) only [up_ne, up_same, true_and, and_true, or_true, true_or, false_or, or_false]
      omega
    · simp (disch := omega) only [up_ne, up_nj]
      exact h
  · intro q j hq hj
    have h := H.M hq hj
    have := g q hq
    unfold TM at *
    rw [up_ne (by omega : t + 7 ≠ t + 1), up_ne (by omega : t + 7 ≠ t + 4), up_ne (by omega : t + 8 ≠ t + 1), up_ne (by omega : t + 8 ≠ t + 4)]
    simp (disch := omega) only [up_ne (a := 86), up_ne (a := 87), up_ne (a := 88)]
    exact ⟨h.1, h.2.1, fun z => by have := h.2.2.1 z; omega, h.2.2.2⟩
  · intro q hq
    have h := H.N hq
    unfold TN NX at *
    by_cases e : q = p
    · subst e
      simp (disch := omega) only [up_ne, up_same]
      exact ⟨fun _ => by rw [hx]; exact hn, h.2⟩
    · simp (disch := omega) only [up_ne, up_nj]
      exact h
  · intro q j hq hj
    have hq1 := hq.1
    have old : (j : Int) < c (t + 1) q → KP t T (up (up c (t + 4) p 0) (t + 1) p x) (up (up (up r 88 p 0) 86 p y) 87 p 0) q j ∧ SO t T (up (up c (t + 4) p 0) (t + 1) p x) q j := by
      intro z
      have h := H.K hq z
      refine ⟨?_, h.2.mo g (by rw [up_ne (by omega), up_ne (by omega)])⟩
      have h := h.1
      unfold KP at *
      simp (disch := omega) only [up_ne]
      exact h
    by_cases e : q = p
    · subst e
      rw [up_same] at hj
      by_cases e2 : j = i
      · subst e2
        refine ⟨?_, hs.mo g (by rw [up_ne (by omega), up_ne (by omega)])⟩
        unfold KP at *
        simp (disch := omega) only [up_ne]
        exact hk
      · exact old (by omega)
    · rw [up_nj e, up_ne (by omega)] at hj
      exact old hj
  · intro q hq
    have h := H.H hq
    unfold HC at *
    simp (disch := omega) only [up_ne]
    exact h
  · have h := H.B
    unfold KB at *
    simp (disch := omega) only [up_ne]
    exact h
end
section
/-- a mark is set -/
theorem U_mark {t : Nat} {T c r c' r' : St} (h2 : t = 26 ∨ t = 38) (H : TI t T c r) {p i : Nat} (hp : p < 192) (hi : i < 64) (hm : c (t + 10) p = 1)
    (ec : ∀ a k, ¬ (a = t + 7 ∧ k = 64 * p + i) → ¬ (a = t + 8 ∧ k = 64 * p + i) → ¬ (a = t + 2 ∧ k = p) → c' a k = c a k)
    (er : ∀ a k, ¬ (a = 91 ∧ k = 64 * p + i) → ¬ (a = 92 ∧ k = 64 * p + i) → r' a k = r a k)
    (e1 : r' 91 (64 * p + i) = c' (t + 7) (64 * p + i)) (e2 : c' (t + 7) (64 * p + i) = 0 ∨ c' (t + 7) (64 * p + i) = 1 ∨ c' (t + 7) (64 * p + i) = 2 ∨ (-24 ≤ c' (t + 7) (64 * p + i) ∧ c' (t + 7) (64 * p + i) ≤ -21))
    (e3 : c' (t + 7) (64 * p + i) ≠ 0 → (i : Int) < c (t + 1) p) (e4 : c' (t + 7) (64 * p + i) = 1 → r' 92 (64 * p + i) = c' (t + 8) (64 * p + i))
    (e5 : c' (t + 2) p + (if c (t + 7) (64 * p + i) = 0 ∨ c (t + 7) (64 * p + i) = 2 then 0 else 1) = c (t + 2) p + (if c' (t + 7) (64 * p + i) = 0 ∨ c' (t + 7) (64 * p + i) = 2 then 0 else 1)) : TI t T c' r' := by
  have n1 := fun k => ec (t + 1) k (by omega) (by omega) (by omega)
  have n3 := fun k => ec (t + 3) k (by omega) (by omega) (by omega)
  have n4 := fun k => ec (t + 4) k (by omega) (by omega) (by omega)
  have n5 := fun k => ec (t + 5) k (by omega) (by omega) (by omega)
  have n6 := fun k => ec (t + 6) k (by omega) (by omega) (by omega)
  have n9 := fun k => ec (t + 9) k (by omega) (by omega) (by omega)
  have m6 := fun k => er 86 k (by omega) (by omega)
  have m7 := fun k => er 87 k (by omega) (by omega)
  have m8 := fun k => er 88 k (by omega) (by omega)
  have m9 := fun k => er 89 k (by omega) (by omega)
  have m0 := fun k => er 90 k (by omega) (by omega)
  have m3 := fun k => er 93 k (by omega) (by omega)
  refine ⟨⟨H.W, fun a k _ _ => (ec a k (by omega) (by omega) (by omega)).trans (H.ct a k (by omega) (by omega)), fun a k _ _ => (er a k (by omega) (by omega)).trans (H.rt a k (by omega) (by omega))⟩, ?_, H.T.upd hm (fun k => ec _ k (by omega) (by omega) (by omega)) (fun k => ec _ k (by omega) (by omega) (by omega)) (fun k => ec _ k (by omega) (by omega) (by omega)) (fun j q _ _ h => ec _ _ (by omega) (by omega) (by omega)), ?_, ?_, ?_, ?_, ?_, ?_⟩
  · have h := H.R
    unfold TR at *
    rw [ec 50 1 (by omega) (by omega) (by omega), ec 50 2 (by omega) (by omega) (by omega), ec 50 3 (by omega) (by omega) (by omega), er 77 37 (by omega) (by omega), er 77 36 (by omega) (by omega)]
    exact h
  · intro q hq
    have h := H.P hq
    unfold TP at *
    simp only [n1, n3, n4, m6, m7, m8]
    exact h
  · intro q j hq hj
    have h := H.M hq hj
    by_cases e : q = p ∧ j = i
    · obtain ⟨rfl, rfl⟩ := e
      unfold TM
      rw [n1]
      exact ⟨e1, e2, e3, e4⟩
    · unfold TM at *
      rw [n1, ec (t + 7) (64 * q + j) (by omega) (by omega) (by omega), ec (t + 8) (64 * q + j) (by omega) (by omega) (by omega), er 91 (64 * q + j) (by omega) (by omega), er 92 (64 * q + j) (by omega) (by omega)]
      exact h
  · intro q hq
    have h := H.N hq
    unfold TN NX at *
    simp only [n1, n4, n5, n6, n9, m9, m0]
    exact h
  · intro q j hq hj
    rw [n1] at hj
    have h := H.K hq hj
    unfold KP SO Td at *
    simp only [n1, n9, m3]
    exact h
  · intro q hq
    have h := H.H hq
    unfold HC at *
    by_cases e : q = p
    · subst e
      have := cn_set (f := fun j => c' (t + 7) (64 * q + j)) (g := fun j => c (t + 7) (64 * q + j)) (a := i) 64 hi (fun j hj hne => ec _ _ (by omega) (by omega) (by omega))
      omega
    · rw [ec (t + 2) q (by omega) (by omega) (by omega), h]
      exact cn_congr 64 (fun j hj => (ec _ _ (by omega) (by omega) (by omega)).symm)
  · have h := H.B
    unfold KB at *
    simp only [n9]
    exact h
/-- what is kept is set -/
theorem U_kept {t : Nat} {T c r c' r' : St} (h2 : t = 26 ∨ t = 38) (H : TI t T c r) {p i : Nat} (hp : p < 192) (hi : i < 64) (hm : c (t + 4) p = 1) (hi2 : c (t + 1) p = i)
    (ec : ∀ a k, ¬ (a = t + 9 ∧ k = 64 * p + i) → ¬ (a = t + 5 ∧ k = p) → ¬ (a = t + 6 ∧ k = p) → c' a k = c a k)
    (er : ∀ a k, ¬ (a = 93 ∧ k = 64 * p + i) → ¬ (a = 89 ∧ k = p) → ¬ (a = 90 ∧ k = p) → r' a k = r a k)
    (e1 : -128 ≤ c' (t + 9) (64 * p + i) ∧ c' (t + 9) (64 * p + i) ≤ 127)
    (e2 : T 19 p = 7 → r' 89 p = c' (t + 5) p ∧ r' 90 p = c' (t + 6) p ∧ 0 ≤ c' (t + 5) p ∧ c' (t + 5) p ≤ 64 ∧ 0 ≤ c' (t + 6) p ∧ c' (t + 6) p ≤ 64) : TI t T c' r' ∧ Mo t p c c' ∧ Fm r r' := by
  have n1 := fun k => ec (t + 1) k (by omega) (by omega) (by omega)
  have n2 := fun k => ec (t + 2) k (by omega) (by omega) (by omega)
  have n3 := fun k => ec (t + 3) k (by omega) (by omega) (by omega)
  have n4 := fun k => ec (t + 4) k (by omega) (by omega) (by omega)
  have n7 := fun k => ec (t + 7) k (by omega) (by omega) (by omega)
  have n8 := fun k => ec (t + 8) k (by omega) (by omega) (by omega)
  have m6 := fun k => er 86 k (by omega) (by omega) (by omega)
  have m7 := fun k => er 87 k (by omega) (by omega) (by omega)
  have m8 := fun k => er 88 k (by omega) (by omega) (by omega)
  have m1 := fun k => er 91 k (by omega) (by omega) (by omega)
  have m2 := fun k => er 92 k (by omega) (by omega) (by omega)
  have hmet := H.met hp (Or.inl hm)
  refine ⟨⟨⟨H.W, fun a k _ _ => (ec a k (by omega) (by omega) (by omega)).trans (H.ct a k (by omega) (by omega)), fun a k _ _ => (er a k (by omega) (by omega) (by omega)).trans (H.rt a k (by omega) (by omega))⟩, ?_, H.T.upd hmet (fun k => ec _ k (by omega) (by omega) (by omega)) (fun k => ec _ k (by omega) (by omega) (by omega)) (fun k => ec _ k (by omega) (by omega) (by omega)) (fun j q _ _ h => ec _ _ (by omega) (by omega) (by omega)), ?_, ?_, ?_, ?_, ?_, ?_⟩, ⟨fun a k _ => ec a k (by omega) (by omega) (by omega), fun k _ _ => ec 50 k (by omega) (by omega) (by omega), ?_, ?_, ?_⟩, ⟨fun a k _ => er a k (by omega) (by omega) (by omega), fun k _ _ => er 77 k (by omega) (by omega) (by omega)⟩⟩
  · have h := H.R
    unfold TR at *
    rw [ec 50 1 (by omega) (by omega) (by omega), ec 50 2 (by omega) (by omega) (by omega), ec 50 3 (by omega) (by omega) (by omega), er 77 37 (by omega) (by omega) (by omega), er 77 36 (by omega) (by omega) (by omega)]
    exact h
  · intro q hq
    have h := H.P hq
    unfold TP at *
    simp only [n1, n3, n4, m6, m7, m8]
    exact h
  · intro q j hq hj
    have h := H.M hq hj
    unfold TM at *
    simp only [n1, n7, n8, m1, m2]
    exact h
  · intro q hq
    have h := H.N hq
    have hq1 := hq.1
    unfold TN NX at *
    rw [n1, n4]
    by_cases e : q = p
    · subst e
      exact ⟨fun z => by omega, e2⟩
    · rw [ec (t + 5) q (by omega) (by omega) (by omega), ec (t + 6) q (by omega) (by omega) (by omega), er 89 q (by omega) (by omega) (by omega), er 90 q (by omega) (by omega) (by omega)]
      refine ⟨fun z y => ⟨(h.1 z y).1, fun j hj => ?_⟩, h.2⟩
      have hpl := H.P hq1
      unfold TP at hpl
      rw [ec (t + 9) (64 * q + j) (by omega) (by omega) (by omega)]
      exact (h.1 z y).2 j hj
  · intro q j hq hj
    rw [n1] at hj
    have h := H.K hq hj
    have hq1 := hq.1
    have hpl := H.P hq1
    unfold TP at hpl
    have hne : ¬ (q = p ∧ j = i) := by
      rintro ⟨rfl, rfl⟩
      omega
    unfold KP SO Td at *
    rw [ec (t + 9) (64 * q + j) (by omega) (by omega) (by omega), er 93 (64 * q + j) (by omega) (by omega) (by omega)]
    simp only [n1]
    exact h
  · intro q hq
    have h := H.H hq
    unfold HC at *
    simp only [n2, n7]
    exact h
  · have h := H.B
    unfold KB at *
    intro k hk
    by_cases e : k = 64 * p + i
    · rw [e]; exact e1
    · rw [ec (t + 9) k (by omega) (by omega) (by omega)]
      exact h k hk
  · rw [ec 50 3 (by omega) (by omega) (by omega)]; exact Int.le_refl _
  · intro q hq
    rw [n1, n4, n3, ec (t + 10) q (by omega) (by omega) (by omega)]
    refine ⟨Int.le_refl _, rfl, fun h => h, fun _ => ⟨rfl, rfl, fun z => ⟨ec _ _ (by omega) (by omega) (by omega), ec _ _ (by omega) (by omega) (by omega)⟩⟩⟩
  · intro q j hq hj
    rw [n7]
    refine ⟨Iff.rfl, fun z => ec _ _ ?_ (by omega) (by omega)⟩
    by_cases e : q = p
    · subst e; omega
    · omega
theorem MT.full {t : Nat} {T c : St} (H : MT t T c) {p : Nat} (hp : p < 192) (hz : c (t + 10) p = 0) : c t 11 < 192 := by
  obtain ⟨M, hM⟩ : ∃ M : Nat, c t 11 = M := ⟨(c t 11).toNat, by have := H.1; omega⟩
  obtain ⟨h1, h2, h3, h4, h5⟩ := H
  by_cases hlt : M < 192
  · omega
  · exfalso
    have hM : c t 11 = 192 := by omega
    have key : ∀ n : Nat, n ≤ 192 → ∀ S : List Nat, S.Nodup → S.length = n → (∀ m ∈ S, m < 192) → (S.map (fun m => (c (t + 11) m).toNat)).Nodup := by
      intro n hn S hS hlen hlt
      rw [List.nodup_iff_pairwise_ne, List.pairwise_map]
      refine List.Pairwise.imp_of_mem ?_ (List.nodup_iff_pairwise_ne.mp hS)
      intro a b ha hb hab he
      have ha := hlt a ha
      have hb := hlt b hb
      have := h3 a (by omega)
      have := h3 b (by omega)
      exact hab (h4 a b (by omega) (by omega) (by omega))
    have k1 := key 192 (by omega) (List.range 192) List.nodup_range List.length_range (fun m h => List.mem_range.mp h)
    have k2 : ((List.range 192).map (fun m => (c (t + 11) m).toNat)) ⊆ (List.range 192).erase p := by
      intro x hx
      obtain ⟨m, hm, rfl⟩ := List.mem_map.mp hx
      have hm := List.mem_range.mp hm
      have := h3 m (by omega)
      refine (List.Nodup.mem_erase_iff List.nodup_range).mpr ⟨?_, List.mem_range.mpr (by omega)⟩
      intro he
      rw [he] at this
      omega
    have k3 := (List.Nodup.length_le_of_subset k1 k2 : _)
    rw [List.length_map, List.length_range, List.length_erase_of_mem (List.mem_range.mpr hp), List.length_range] at k3
    omega
/-- a part is met -/
theorem U_meet {t : Nat} {T c r : St} (h2 : t = 26 ∨ t = 38) (H : TI t T c r) (N : Nat) {p : Nat} (hv : VP T p) : ∃ c', d_x6_meet N t c (p : Int) = some (c', 0) ∧ TI t T c' r ∧ Mo t 192 c c' ∧ c' (t + 10) p = 1 ∧ ∀ a k, a ≠ t → a ≠ t + 10 → a ≠ t + 11 → c' a k = c a k := by
  have hp := hv.1
  unfold d_x6_meet
  obtain ⟨h1, h9, h3, h4, h5⟩ := H.T
  have hf := H.T.full hp
  have hc := h5 p hp
  rw [w32i (x := (p : Int)) (by omega) (by omega), Int.toNat_natCast, if_pos (by omega)]
  rcases hc with z | z
  · have hf := hf z.1
    obtain ⟨M, hM⟩ : ∃ M : Nat, c t 11 = M := ⟨(c t 11).toNat, by omega⟩
    have e1 : up c (t + 10) p 1 t 11 = M := by rw [up_ne (by omega)]; exact hM
    simp only [bd_eq, and11, e1]
    rw [z.1, w32_0, if_pos rfl, hM, w32i (x := (M : Int)) (by omega) (by omega), w32i (x := ((192 : Nat) : Int)) (by omega) (by omega), if_pos (by omega), if_pos (by omega), if_pos (by omega), Int.toNat_natCast, up_ne (s := up c (t + 10) p 1) (by omega), e1]
    have q : ∀ a k, a ≠ t → a ≠ t + 10 → a ≠ t + 11 → up (up (up c (t + 10) p 1) (t + 11) M p) t 11 ((M : Int) + 1) a k = c a k := by
      intro a k y1 y2 y3
      rw [up_ne y1, up_ne y3, up_ne y2]
    have q0 : up (up (up c (t + 10) p 1) (t + 11) M p) t 11 ((M : Int) + 1) t 11 = (M : Int) + 1 := up_same
    have q10 : ∀ k, k ≠ p → up (up (up c (t + 10) p 1) (t + 11) M p) t 11 ((M : Int) + 1) (t + 10) k = c (t + 10) k := by
      intro k hk
      rw [up_ne (by omega), up_ne (by omega), up_nj hk]
    have q10' : up (up (up c (t + 10) p 1) (t + 11) M p) t 11 ((M : Int) + 1) (t + 10) p = 1 := by rw [up_ne (by omega), up_ne (by omega), up_same]
    have q11 : ∀ k, k ≠ M → up (up (up c (t + 10) p 1) (t + 11) M p) t 11 ((M : Int) + 1) (t + 11) k = c (t + 11) k := by
      intro k hk
      rw [up_ne (by omega), up_nj hk, up_ne (by omega)]
    have q11' : up (up (up c (t + 10) p 1) (t + 11) M p) t 11 ((M : Int) + 1) (t + 11) M = p := by rw [up_ne (by omega), up_same]
    generalize up (up (up c (t + 10) p 1) (t + 11) M p) t 11 ((M : Int) + 1) = d at *
    refine ⟨d, rfl, ⟨⟨H.W, fun a k _ _ => (q a k (by omega) (by omega) (by omega)).trans (H.ct a k (by omega) (by omega)), H.rt⟩, ?_, ?_, H.S.cong (fun a k _ _ => q a k (by omega) (by omega) (by omega)) (fun a k _ _ => rfl)⟩, ⟨fun a k _ => q a k (by omega) (by omega) (by omega), fun k _ _ => q 50 k (by omega) (by omega) (by omega), ?_, ?_, ?_⟩, q10', q⟩
    · have h := H.R
      unfold TR at *
      rw [q 50 1 (by omega) (by omega) (by omega), q 50 2 (by omega) (by omega) (by omega), q 50 3 (by omega) (by omega) (by omega)]
      exact h
    · unfold MT
      rw [q0]
      refine ⟨by omega, by omega, ?_, ?_, ?_⟩
      · intro m hm
        by_cases e : m = M
        · subst e
          rw [q11', Int.toNat_natCast, q10']
          omega
        · have := h3 m (by omega)
          rw [q11 m e]
          refine ⟨this.1, this.2.1, ?_⟩
          by_cases e2 : (c (t + 11) m).toNat = p
          · rw [e2, q10']
          · rw [q10 _ e2]; exact this.2.2
      · intro m m' hm hm'
        by_cases e : m = M
        · by_cases e' : m' = M
          · intro _; omega
          · subst e
            rw [q11', q11 m' e']
            intro he
            have := h3 m' (by omega)
            rw [← he, Int.toNat_natCast] at this
            omega
        · by_cases e' : m' = M
          · subst e'
            rw [q11', q11 m e]
            intro he
            have := h3 m (by omega)
            rw [he, Int.toNat_natCast] at this
            omega
          · rw [q11 m e, q11 m' e']
            exact h4 m m' (by omega) (by omega)
      · intro k hk
        by_cases e : k = p
        · subst e
          right
          exact ⟨q10', hv, M, by omega, q11'⟩
        · rw [q10 k e, q _ _ (by omega) (by omega) (by omega), q _ _ (by omega) (by omega) (by omega), q _ _ (by omega) (by omega) (by omega), q _ _ (by omega) (by omega) (by omega), q _ _ (by omega) (by omega) (by omega), q _ _ (by omega) (by omega) (by omega)]
          rcases h5 k hk with y | ⟨y1, y2, m, y3, y4⟩
          · exact Or.inl y
          · exact Or.inr ⟨y1, y2, m, by omega, by rw [q11 m (by omega)]; exact y4⟩
    · rw [q 50 3 (by omega) (by omega) (by omega)]; exact Int.le_refl _
    · intro k hk
      rw [q (t + 1) k (by omega) (by omega) (by omega), q (t + 3) k (by omega) (by omega) (by omega), q (t + 4) k (by omega) (by omega) (by omega), q (t + 5) k (by omega) (by omega) (by omega), q (t + 6) k (by omega) (by omega) (by omega)]
      refine ⟨Int.le_refl _, rfl, fun h => ?_, fun _ => ⟨rfl, rfl, fun _ => ⟨rfl, rfl⟩⟩⟩
      by_cases e : k = p
      · rw [e]; exact q10'
      · rw [q10 k e]; exact h
    · intro k i hk hi
      rw [q (t + 7) _ (by omega) (by omega) (by omega), q (t + 9) _ (by omega) (by omega) (by omega)]
      exact ⟨Iff.rfl, fun _ => rfl⟩
  · rw [z.1, w32_1, if_neg (by decide)]
    exact ⟨c, rfl, H, Mo.refl, z.1, fun _ _ _ _ _ => rfl⟩
/-- a head's telling, from its beginning to its end -/
theorem Mo.head {t : Nat} {c0 c1 c2 c3 : St} {p i : Nat} (h2 : t = 26 ∨ t = 38) (hp : p < 192) (hi : i < 64) (h0 : c0 (t + 7) (64 * p + i) ≠ 2) (h9 : c3 (t + 7) (64 * p + i) ≠ 2) (e1 : ∀ a k, ¬ (a = t + 7 ∧ k = 64 * p + i) → c1 a k = c0 a k) (M : Mo t 192 c1 c2)
    (e3 : ∀ a k, ¬ (a = t + 7 ∧ k = 64 * p + i) → ¬ (a = t + 8 ∧ k = 64 * p + i) → ¬ (a = t + 2 ∧ k = p) → ¬ (a = 50 ∧ k = 4) → c3 a k = c2 a k) : Mo t 192 c0 c3 := by
  obtain ⟨h1, h2', h3, h4, h5⟩ := M
  refine ⟨fun a k z => ?_, fun k z y => ?_, ?_, fun q hq => ?_, fun q j hq hj => ?_⟩
  · rw [e3 a k (by omega) (by omega) (by omega) (by omega), h1 a k z, e1 a k (by omega)]
  · rw [e3 50 k (by omega) (by omega) (by omega) (by omega), h2' k z y, e1 50 k (by omega)]
  · rw [e3 50 3 (by omega) (by omega) (by omega) (by omega), ← e1 50 3 (by omega)]
    exact h3
  · have := h4 q hq
    rw [e1 (t + 1) q (by omega), e1 (t + 3) q (by omega), e1 (t + 4) q (by omega), e1 (t + 5) q (by omega), e1 (t + 6) q (by omega), e1 (t + 10) q (by omega)] at this
    rw [e3 (t + 1) q (by omega) (by omega) (by omega) (by omega), e3 (t + 3) q (by omega) (by omega) (by omega) (by omega), e3 (t + 4) q (by omega) (by omega) (by omega) (by omega), e3 (t + 5) q (by omega) (by omega) (by omega) (by omega), e3 (t + 6) q (by omega) (by omega) (by omega) (by omega), e3 (t + 10) q (by omega) (by omega) (by omega) (by omega)]
    exact this
  · have := h5 q j hq hj
    rw [e1 (t + 1) q (by omega), e1 (t + 9) _ (by omega)] at this
    rw [e3 (t + 9) _ (by omega) (by omega) (by omega) (by omega)]
    refine ⟨?_, this.2⟩
    by_cases e : q = p ∧ j = i
    · obtain ⟨rfl, rfl⟩ := e
      exact ⟨fun z => absurd z h0, fun z => absurd z h9⟩
    · rw [e3 (t + 7) _ (by omega) (by omega) (by omega) (by omega), ← e1 (t + 7) _ (by omega)]
      exact this.1
/-- a place's telling -/
theorem Mo.place {t : Nat} {c0 c1 c2 c3 : St} {p : Nat} (h2 : t = 26 ∨ t = 38) (hp : p < 192) (h0 : c0 (t + 4) p = 0) (e1 : ∀ a k, ¬ (a = t + 4 ∧ k = p) → c1 a k = c0 a k) (M : Mo t p c1 c2)
    (e3 : ∀ a k, ¬ (a = t + 4 ∧ k = p) → ¬ (a = t + 1 ∧ k = p) → ¬ (a = t + 3 ∧ k = p) → c3 a k = c2 a k) (h4' : c3 (t + 4) p = 0) (h5' : c2 (t + 1) p ≤ c3 (t + 1) p) : Mo t 192 c0 c3 := by
  obtain ⟨h1, h2', h3, h4, h5⟩ := M
  refine ⟨fun a k z => ?_, fun k z y => ?_, ?_, fun q hq => ?_, fun q j hq hj => ?_⟩
  · rw [e3 a k (by omega) (by omega) (by omega), h1 a k z, e1 a k (by omega)]
  · rw [e3 50 k (by omega) (by omega) (by omega), h2' k z y, e1 50 k (by omega)]
  · rw [e3 50 3 (by omega) (by omega) (by omega), ← e1 50 3 (by omega)]
    exact h3
  · have := h4 q hq
    rw [e1 (t + 1) q (by omega), e1 (t + 3) q (by omega), e1 (t + 5) q (by omega), e1 (t + 6) q (by omega), e1 (t + 10) q (by omega)] at this
    rw [e3 (t + 5) q (by omega) (by omega) (by omega), e3 (t + 6) q (by omega) (by omega) (by omega), e3 (t + 10) q (by omega) (by omega) (by omega)]
    by_cases e : q = p
    · subst e
      exact ⟨by omega, by omega, this.2.2.1, fun z => by omega⟩
    · rw [e1 (t + 4) q (by omega)] at this
      rw [e3 (t + 1) q (by omega) (by omega) (by omega), e3 (t + 3) q (by omega) (by omega) (by omega), e3 (t + 4) q (by omega) (by omega) (by omega)]
      exact ⟨this.1, this.2.1, this.2.2.1, fun z => ⟨(this.2.2.2 z).1, (this.2.2.2 z).2.1, fun _ => (this.2.2.2 z).2.2 e⟩⟩
  · have := h5 q j hq hj
    rw [e1 (t + 1) q (by omega), e1 (t + 9) _ (by omega), e1 (t + 7) _ (by omega)] at this
    rw [e3 (t + 9) _ (by omega) (by omega) (by omega), e3 (t + 7) _ (by omega) (by omega) (by omega)]
    exact this
end
section
def AnH (v : Int) : Prop := v = 1 ∨ v = -6 ∨ (-24 ≤ v ∧ v ≤ -21)
def T2 (t : Nat) : Prop := t = 26 ∨ t = 38
theorem AnH.rng {v : Int} (h : AnH v) : -100 ≤ v ∧ v ≤ 100 := by
  unfold AnH at h
  omega
theorem An.rng {v : Int} (h : An v) : -100 ≤ v ∧ v ≤ 100 := by
  unfold An at h
  omega
def QP (t : Nat) (T c r : St) (p : Nat) (z : Int) (c' r' : St) (v : Int) : Prop := TI t T c' r' ∧ Mo t 192 c c' ∧ Fm r r' ∧ An v ∧ (v = 1 → Td t T c' p z)
def QH (t : Nat) (T c r : St) (c' r' : St) (v : Int) : Prop := TI t T c' r' ∧ Mo t 192 c c' ∧ Fm r r' ∧ AnH v ∧ (v = 1 → c' 50 4 = r' 77 38)
def AP (t : Nat) (T : St) (f : Int) (A P : St → Int → Int → Option Rs) : Prop := ∀ (c r : St) (p : Nat) (x x' y y' z : Int), TI t T c r → VP T p → x = p → x' = p → y = z → y' = z → 0 ≤ z → z ≤ 100000 → c 50 2 < f + c 50 3 → Two (A c x y) (P r x' y') (QP t T c r p z)
def AH (t : Nat) (T : St) (f : Int) (A P : St → Int → Int → Option Rs) : Prop := ∀ (c r : St) (p : Nat) (x x' y y' z : Int), TI t T c r → VP T p → x = p → x' = p → y = z → y' = z → Td t T c p z → c 50 2 < f + c 50 3 → Two (A c x y) (P r x' y') (QH t T c r)
theorem QH.after {t : Nat} {T c r c1 r1 c2 r2 : St} {v : Int} (h : QH t T c1 r1 c2 r2 v) (M : Mo t 192 c c1) (F : Fm r r1) : QH t T c r c2 r2 v := ⟨h.1, M.trans h.2.1, F.trans h.2.2.1, h.2.2.2.1, h.2.2.2.2⟩
theorem QP.after {t p : Nat} {T c r c1 r1 c2 r2 : St} {z v : Int} (h : QP t T c1 r1 p z c2 r2 v) (M : Mo t 192 c c1) (F : Fm r r1) : QP t T c r p z c2 r2 v := ⟨h.1, M.trans h.2.1, F.trans h.2.2.1, h.2.2.2.1, h.2.2.2.2⟩
theorem QH.val {t : Nat} {T c r : St} (h2 : t = 26 ∨ t = 38) (H : TI t T c r) {x y : Int} (h : x = y) : QH t T c r (up c 50 4 x) (up r 77 38 y) 1 := by
  have h1 := U_valL h2 H x
  have h3 := U_valR h2 h1.1 y
  exact ⟨h3.1, h1.2, h3.2, Or.inl rfl, fun _ => by rw [up_same, up_same, h]⟩
theorem QH.no {t : Nat} {T c r : St} (H : TI t T c r) {v : Int} (h : AnH v) (h1 : v ≠ 1) : QH t T c r c r v := ⟨H, Mo.refl, Fm.refl, h, fun z => absurd z h1⟩
theorem Mo.f {t x : Nat} {c c' : St} {f : Int} (M : Mo t x c c') (h : c 50 2 < f + c 50 3) : c' 50 2 < f + c' 50 3 := by
  have h1 := M.2.1 2 (by omega) (by omega)
  have h3 := M.2.2.1
  omega
theorem Mo.pl {t x : Nat} {c c' : St} (M : Mo t x c c') : ∀ q, q < 192 → c (t + 1) q ≤ c' (t + 1) q := fun q hq => (M.2.2.2.1 q hq).1
theorem J_comb {t : Nat} {T c r : St} {N : Nat} (h2 : t = 26 ∨ t = 38) (H : TI t T c r) {o o' a a' b b' : Int} (ho : o = 42 ∨ o = 43 ∨ o = 45 ∨ o = 47 ∨ o = 37) (ho' : o' = o) (ha : a' = a) (hb : b' = b) : Two (d_x4_combine N c o a b) (d_x8_joined N r o' a' b') (QH t T c r) := by
  subst ho' ha hb
  unfold d_x4_combine d_x8_joined
  rw [w32i (x := o') (by omega) (by omega)]
  have k22 : ∀ (h : w64 b' ≠ 0 ∨ (o' ≠ 47 ∧ o' ≠ 37)), Two (d_x4_combine_22 N c o' a' b') (d_x8_joined_22 N r o' a' b') (QH t T c r) := by
    intro h
    unfold d_x4_combine_22 d_x8_joined_22 d_x8_joined_79
    rw [w32i (x := o') (by omega) (by omega)]
    rcases ho with e | e | e | e | e
    · subst e
      exact Two.iL rfl (Two.eR (by decide) (Two.eR (by decide) (Two.iR rfl (Two.ret rfl (QH.val h2 H rfl)))))
    · subst e
      exact Two.eL (by decide) (Two.iL rfl (Two.iR rfl (Two.ret rfl (QH.val h2 H rfl))))
    · subst e
      exact Two.eL (by decide) (Two.eL (by decide) (Two.iL rfl (Two.eR (by decide) (Two.iR rfl (Two.ret rfl (QH.val h2 H rfl))))))
    · subst e
      exact Two.eL (by decide) (Two.eL (by decide) (Two.eL (by decide) (Two.iL rfl (Two.eL (by omega) (Two.eR (by decide) (Two.eR (by decide) (Two.eR (by decide) (Two.iR rfl (Two.eR (by omega) (Two.ret rfl (QH.val h2 H rfl)))))))))))
    · subst e
      exact Two.eL (by decide) (Two.eL (by decide) (Two.eL (by decide) (Two.eL (by decide) (Two.eL (by decide) (Two.eL (by decide) (Two.eL (by omega) (Two.eR (by decide) (Two.eR (by decide) (Two.eR (by decide) (Two.eR (by decide) (Two.eR (by omega) (Two.ret rfl (QH.val h2 H rfl)))))))))))))
  have k12 : Two (d_x4_combine_12 N c o' a' b') (d_x8_joined_12 N r o' a' b') (QH t T c r) := by
    unfold d_x4_combine_12 d_x8_joined_12
    by_cases h : w64 b' = 0
    · exact Two.iL h (Two.iR h (Two.ret rfl (QH.no H (by unfold AnH; omega) (by decide))))
    · exact Two.eL h (Two.eR h (k22 (Or.inl h)))
  by_cases h1 : o' = 47
  · exact Two.iL h1 (Two.iR h1 k12)
  · by_cases h3 : o' = 37
    · exact Two.eL h1 (Two.eR h1 (Two.iL h3 (Two.iR h3 k12)))
    · exact Two.eL h1 (Two.eR h1 (Two.eL h3 (Two.eR h3 (k22 (Or.inr ⟨h1, h3⟩)))))
theorem p102_1 {N : Nat} {s : St} : d_x4_passes_102 N s 1 = some (s, 1) := by
  unfold d_x4_passes_102
  rw [w32_1, if_neg (by decide)]
theorem p102_0 {N : Nat} {s : St} : d_x4_passes_102 N s 0 = some (s, 0) := by
  unfold d_x4_passes_102
  rw [w32_0, if_pos rfl]
theorem J_pass {c r : St} {N : Nat} {p : Nat} {o a a' n : Int} (hp : p < 192) (ho : o = 60 ∨ o = 61 ∨ o = 62 ∨ o = 37) (hn : -9999 ≤ n ∧ n ≤ 9999) (h80 : r 80 p = o) (h82 : r 82 p = n) (ha : a' = a) : ∃ v, d_x4_passes N c o a n = some (c, v) ∧ d_x8_passes N r (p : Int) a' = some (r, v) ∧ (v = 1 ∨ v = 0 ∨ v = -22) := by
  subst ha
  have hg : 0 ≤ (p : Int) ∧ (p : Int) < ((192 : Nat) : Int) := by omega
  unfold d_x4_passes d_x8_passes d_x8_passes_95 d_x4_passes_40 d_x4_passes_57 d_x4_passes_74 d_x4_passes_100
  rw [bd_eq]
  rw [w32i (x := (p : Int)) (by omega) (by omega), Int.toNat_natCast, h80, h82, w32i (x := o) (by omega) (by omega), w32i (x := n) (by omega) (by omega), w64_id (x := n) (by omega), p102_0, p102_1]
  simp only [if_pos hg]
  rcases ho with e | e | e | e
  · rw [if_pos (show o = 60 from e), if_neg (show ¬ o = 37 by omega), if_pos (show o = 60 from e)]
    by_cases h : w64 a' < n
    · exact ⟨1, if_pos h, if_pos h, by omega⟩
    · exact ⟨0, if_neg h, if_neg h, by omega⟩
  · rw [if_neg (show ¬ o = 60 by omega), if_pos (show o = 61 from e), if_neg (show ¬ o = 37 by omega), if_neg (show ¬ o = 60 by omega), if_neg (show ¬ o = 62 by omega)]
    by_cases h : w64 a' = n
    · exact ⟨1, if_pos h, if_pos h, by omega⟩
    · exact ⟨0, if_neg h, if_neg h, by omega⟩
  · rw [if_neg (show ¬ o = 60 by omega), if_neg (show ¬ o = 61 by omega), if_pos (show o = 62 from e), if_neg (show ¬ o = 37 by omega), if_neg (show ¬ o = 60 by omega), if_pos (show o = 62 from e)]
    by_cases h : n < w64 a'
    · exact ⟨1, if_pos h, if_pos h, by omega⟩
    · exact ⟨0, if_neg h, if_neg h, by omega⟩
  · rw [if_neg (show ¬ o = 60 by omega), if_neg (show ¬ o = 61 by omega), if_neg (show ¬ o = 62 by omega), if_pos (show o = 37 from e)]
    by_cases h : n = 0
    · exact ⟨-22, if_pos h, if_pos h, by omega⟩
    · rw [if_neg h, if_neg h, if_neg h, if_neg h]
      by_cases h3 : w64 (Int.tmod (w64 a') n) = 0
      · exact ⟨1, if_pos h3, if_pos h3, by omega⟩
      · exact ⟨0, if_neg h3, if_neg h3, by omega⟩
theorem e_second {T c : St} {N p : Nat} (hc : ct c T) (W : WT T) (hp : VP T (p + 1)) : d_x5_secondRow N 17 8 c (p : Int) = some (c, ((p + 1 + (T 23 (p + 1)).toNat : Nat) : Int)) := by
  have h1 := hp.1
  have w := (W.2 _ hp).1
  unfold d_x5_secondRow
  show (if w32 ((p + 1 : Nat) : Int) < w32 ((192 : Nat) : Int) then if 0 ≤ w32 ((p + 1 : Nat) : Int) ∧ w32 ((p + 1 : Nat) : Int) < ((192 : Nat) : Int) then some (c, ((p + 1 : Nat) : Int) + c 23 (w32 ((p + 1 : Nat) : Int)).toNat) else none else _) = _
  rw [w32i (x := ((p + 1 : Nat) : Int)) (by omega) (by omega), w32i (x := ((192 : Nat) : Int)) (by omega) (by omega), if_pos (by omega), if_pos (by omega), Int.toNat_natCast, hc 23 _ (by omega) (by omega)]
  congr 2
  omega
theorem e_other {T r : St} {N p : Nat} (hr : rt r T) (W : WT T) (hp : VP T (p + 1)) : d_x8_other N r (p : Int) = some (r, ((p + 1 + (T 23 (p + 1)).toNat : Nat) : Int)) := by
  have h1 := hp.1
  have w := (W.2 _ hp).1
  unfold d_x8_other
  show (if 0 ≤ w32 ((p + 1 : Nat) : Int) ∧ w32 ((p + 1 : Nat) : Int) < ((192 : Nat) : Int) then some (r, ((p + 1 : Nat) : Int) + r 81 (w32 ((p + 1 : Nat) : Int)).toNat) else none) = _
  rw [w32i (x := ((p + 1 : Nat) : Int)) (by omega) (by omega), if_pos (by omega), Int.toNat_natCast, hr 81 _ (by omega) (by omega), w.2.2.1]
  congr 2
  omega
theorem e_run {t : Nat} {T c r : St} {N : Nat} (H : TI t T c r) : d_x4_beginsRun N c = if c 50 3 < c 50 2 then some (up c 50 3 (c 50 3 + 1), 1) else some (c, 0) := by
  have h := H.R
  unfold TR at h
  unfold d_x4_beginsRun
  rw [w32i (x := c 50 3) (by omega) (by omega), w32i (x := c 50 2) (by omega) (by omega)]
  rfl
theorem e_first {N p : Nat} {c : St} : d_x5_firstRow N 17 8 c (p : Int) = some (c, ((p + 1 : Nat) : Int)) := rfl
end
