/-- the sheets of both -/
def RSh (c r : St) : Prop := ∀ h : Nat, h < 4 → (c 52 h = -1 ∧ r 126 h = 0) ∨
  ((c 52 h = 0 ∨ c 52 h = 1 ∨ c 52 h = 2) ∧ r 126 h = 1 ∧ r 127 h = c 52 h ∧ r 128 h = c 53 h ∧ 0 ≤ c 53 h ∧ c 53 h ≤ 40 ∧ ∀ i : Nat, (i : Int) < c 53 h → c 54 (h * 40 + i) = r 129 (h * 40 + i))
def cSh (a : Nat) : Prop := a = 52 ∨ a = 53 ∨ a = 54
def mSh (a : Nat) : Prop := a = 126 ∨ a = 127 ∨ a = 128 ∨ a = 129
/-- nothing but A has changed -/
def Fr (A : Nat → Prop) (s t : St) : Prop := ∀ a k, ¬ A a → t a k = s a k
theorem Fr.refl {A : Nat → Prop} {s : St} : Fr A s s := fun _ _ _ => rfl
theorem Fr.trans {A : Nat → Prop} {s t u : St} (h : Fr A s t) (g : Fr A t u) : Fr A s u := fun a k z => (g a k z).trans (h a k z)
theorem Fr.up {A : Nat → Prop} {s : St} {a j : Nat} {x : Int} (h : A a) : Fr A s (up s a j x) := fun b k z => up_ne (fun e => z (e ▸ h))
theorem Fr.fz {A : Nat → Prop} {s : St} {a lo n : Nat} {x : Int} (h : A a) : Fr A s (fz s a lo n x) := fun b k z => by
  have hn : ¬ (b = a ∧ lo ≤ k ∧ k < lo + n) := fun e => z (e.1 ▸ h)
  rw [fz_app, if_neg hn]
theorem Fr.cp {A : Nat → Prop} {s : St} {a0 sp a1 dp n : Nat} (h : A a1) : Fr A s (cp s a0 sp a1 dp n) := fun b k z => cp_ne (fun e => z (e ▸ h))
theorem renewL (N : Nat) : ∀ (n : Nat) (s : St) (h m j : Nat), h < 4 → m ≤ 40 → j ≤ m → m < n + j → d_x3_renew_17L N n s (h : Int) (m : Int) (j : Int) = some (fz s 54 (h * 40 + j) (m - j) 0, 0) := by
  intro n
  induction n with
  | zero => intro s h m j _ _ _ h4; omega
  | succ n ih =>
    intro s h m j h1 h2 h3 h4
    show d_x3_renew_17 N (d_x3_renew_17L N n) s h m j = _
    unfold d_x3_renew_17
    rw [w32i (x := (j : Int)) (by omega) (by omega), w32i (x := (m : Int)) (by omega) (by omega), w32i (x := (h : Int) * 40 + j) (by omega) (by omega)]
    by_cases hjm : j = m
    · subst hjm
      rw [if_neg (by omega), Nat.sub_self, fz_0]
    · rw [if_pos (by omega), if_pos (by omega)]
      show d_x3_renew_17L N n (up s 54 ((h : Int) * 40 + j).toNat 0) h m ((j + 1 : Nat) : Int) = _
      rw [ih _ h m (j + 1) h1 h2 (by omega) (by omega), show ((h : Int) * 40 + j).toNat = h * 40 + j by omega, show h * 40 + (j + 1) = h * 40 + j + 1 by omega, fz_up, show m - (j + 1) + 1 = m - j by omega]
theorem e_renew {N : Nat} (hN : 100 ≤ N) (s : St) (h m : Nat) (q : Int) (h1 : h < 4) (h2 : m ≤ 40) : d_x3_renew N s (h : Int) q (m : Int) = some (fz (up (up s 52 h q) 53 h m) 54 (h * 40) m 0, 0) := by
  unfold d_x3_renew
  rw [w32i (x := (h : Int)) (by omega) (by omega), if_pos (by omega)]
  show (if 0 ≤ (h : Int) ∧ (h : Int) < ((4 : Nat) : Int) then d_x3_renew_17L N N (up (up s 52 (h : Int).toNat q) 53 (h : Int).toNat m) h m ((0 : Nat) : Int) else none) = _
  rw [if_pos (by omega), renewL N N _ h m 0 h1 h2 (by omega) (by omega)]
  rfl
theorem sheetL (N : Nat) (x2 : Int) (hx : r32 x2) (hx2 : ¬ x2 < 0) : ∀ (n : Nat) (s : St) (h m j : Nat), h < 4 → m ≤ 40 → j ≤ m → m < n + j → d_x8_sheet_77L N n s (h : Int) x2 (m : Int) (j : Int) = some (fz s 129 (h * 40 + j) (m - j) 0, 1) := by
  intro n
  induction n with
  | zero => intro s h m j _ _ _ h4; omega
  | succ n ih =>
    intro s h m j h1 h2 h3 h4
    show d_x8_sheet_77 N (d_x8_sheet_77L N n) s h x2 m j = _
    unfold d_x8_sheet_77
    rw [w32i (x := (j : Int)) (by omega) (by omega), w32i (x := (m : Int)) (by omega) (by omega), w32i (x := 40 * (h : Int) + j) (by omega) (by omega), w32r hx]
    by_cases hjm : j = m
    · subst hjm
      rw [if_neg (by omega), Nat.sub_self, fz_0]
    · rw [if_pos (by omega), if_neg hx2, if_pos (by omega)]
      show d_x8_sheet_77L N n (up s 129 (40 * (h : Int) + j).toNat 0) h x2 m ((j + 1 : Nat) : Int) = _
      rw [ih _ h m (j + 1) h1 h2 (by omega) (by omega), show (40 * (h : Int) + j).toNat = h * 40 + j by omega, show h * 40 + (j + 1) = h * 40 + j + 1 by omega, fz_up, show m - (j + 1) + 1 = m - j by omega]
theorem sheetL0 (N n : Nat) (s : St) (h x2 m j : Int) (hx : r32 x2) (hx2 : x2 < 0) : d_x8_sheet_77L N (n + 1) s h x2 m j = some (s, 1) := by
  show d_x8_sheet_77 N (d_x8_sheet_77L N n) s h x2 m j = _
  unfold d_x8_sheet_77
  rw [w32r hx, if_pos hx2]
  split <;> rfl
/-- sheet() on both sides -/
theorem r_sheet {N : Nat} (hN : 100 ≤ N) {c r : St} {a0 a1 a2 : Int} (h0 : r32 a0) (h1 : r32 a1) (h2 : r32 a2) (H : RSh c r) : ∃ c' r' v, d_x7_sheet N c a0 a1 a2 = some (c', v) ∧ d_x8_sheet N r a0 a1 a2 = some (r', v) ∧ RSh c' r' ∧ Fr cSh c c' ∧ Fr mSh r r' := by
  unfold d_x7_sheet d_x8_sheet
  rw [e_isSheet7 N c h0, e_isSheet8 N r h0, bI_some, bI_some, wz, iz, iz, w32r h1, w32r h2, e_in32 N r h1 (by unfold r32; omega) (by unfold r32; omega), bI_some, wz, iz]
  by_cases hs : 0 ≤ a0 ∧ a0 < 4
  · rw [if_pos hs, if_pos hs]
    obtain ⟨h, rfl⟩ : ∃ h : Nat, a0 = h := ⟨a0.toNat, by omega⟩
    have hh : h < 4 := by omega
    by_cases ha : -1 ≤ a1 ∧ a1 ≤ 2
    · rw [if_neg (by omega), if_neg (by omega), if_pos ha]
      by_cases ha1 : a1 = -1
      · subst ha1
        rw [if_pos rfl, if_pos (show (-1 : Int) < 0 by omega), show (0 : Int) = ((0 : Nat) : Int) from rfl, e_renew hN c h 0 (-1) hh (by omega)]
        unfold d_x8_sheet_34 d_x8_sheet_45 d_x8_sheet_59
        rw [w32r h1, w32i (x := (h : Int)) (by omega) (by omega), if_pos (by omega), if_pos (by omega), if_pos (by omega)]
        obtain ⟨n, rfl⟩ : ∃ n, N = n + 1 := ⟨N - 1, by omega⟩
        refine ⟨_, up (up (up r 126 h 0) 127 h (-1)) 128 h a2, 1, rfl, ?_, ?_, ?_, ?_⟩
        · show (if 0 ≤ (h : Int) ∧ (h : Int) < ((4 : Nat) : Int) then (if 0 ≤ (h : Int) ∧ (h : Int) < ((4 : Nat) : Int) then d_x8_sheet_77L (n + 1) (n + 1) (up (up (up r 126 h 0) 127 h (-1)) 128 h a2) h (-1) a2 0 else none) else none) = _
          rw [if_pos (by omega), if_pos (by omega), sheetL0 _ _ _ _ _ _ _ h1 (by omega)]
        · show RSh (fz (up (up c 52 h (-1)) 53 h ((0 : Nat) : Int)) 54 (h * 40) 0 0) _
          rw [fz_0]
          intro k hk
          by_cases hkh : k = h
          · subst hkh
            left
            simp [up_app]
          · have := H k hk
            simpa [up_app, hkh] using this
        · exact ((Fr.up (by unfold cSh; omega)).trans (Fr.up (by unfold cSh; omega))).trans (Fr.fz (by unfold cSh; omega))
        · exact ((Fr.up (by unfold mSh; omega)).trans (Fr.up (by unfold mSh; omega))).trans (Fr.up (by unfold mSh; omega))
      · rw [if_neg ha1, if_neg (show ¬ a1 < 0 by omega)]
        by_cases hb : 40 < a2
        · rw [if_pos hb, if_pos hb]
          exact ⟨c, r, -2, rfl, rfl, H, Fr.refl, Fr.refl⟩
        · rw [if_neg hb, if_neg hb]
          unfold d_x8_sheet_34
          rw [w32r h1, w32r h2, if_neg (by omega : ¬ a1 < 0)]
          by_cases hb2 : a2 < 0
          · rw [if_pos hb2, if_pos hb2]
            exact ⟨c, r, -14, rfl, rfl, H, Fr.refl, Fr.refl⟩
          · obtain ⟨m, rfl⟩ : ∃ m : Nat, a2 = m := ⟨a2.toNat, by omega⟩
            rw [if_neg hb2, if_neg hb2, e_renew hN c h m a1 hh (by omega)]
            unfold d_x8_sheet_45 d_x8_sheet_59
            rw [w32r h1, w32i (x := (h : Int)) (by omega) (by omega), if_neg (by omega), if_pos (by omega)]
            refine ⟨_, fz (up (up (up r 126 h 1) 127 h a1) 128 h m) 129 (h * 40 + 0) (m - 0) 0, 1, rfl, ?_, ?_, ?_, ?_⟩
            · show (if 0 ≤ (h : Int) ∧ (h : Int) < ((4 : Nat) : Int) then (if 0 ≤ (h : Int) ∧ (h : Int) < ((4 : Nat) : Int) then d_x8_sheet_77L N N (up (up (up r 126 h 1) 127 h a1) 128 h m) h a1 m ((0 : Nat) : Int) else none) else none) = _
              rw [if_pos (by omega), if_pos (by omega), sheetL N a1 h1 (by omega) N _ h m 0 hh (by omega) (by omega) (by omega)]
            · intro k hk
              by_cases hkh : k = h
              · subst hkh
                right
                simp only [fz_app, up_app]
                refine ⟨?_, ?_, ?_, ?_, ?_, ?_, ?_⟩
                · simp; omega
                · simp
                · simp
                · simp
                · simp
                · simp; omega
                · intro i hi
                  simp at hi
                  rw [if_pos (show True ∧ k * 40 ≤ k * 40 + i ∧ k * 40 + i < k * 40 + m from ⟨trivial, by omega, by omega⟩), if_pos (show True ∧ k * 40 + 0 ≤ k * 40 + i ∧ k * 40 + i < k * 40 + 0 + (m - 0) from ⟨trivial, by omega, by omega⟩)]
              · have := H k hk
                have e1 : ∀ i : Nat, (i : Int) < c 53 k → c 53 k ≤ 40 → ¬ (h * 40 ≤ k * 40 + i ∧ k * 40 + i < h * 40 + m) := by intro i h1 h2; omega
                rcases this with z | ⟨z1, z2, z3, z4, z5, z6, z7⟩
                · left; simpa [fz_app, up_app, hkh] using z
                · right
                  simp only [fz_app, up_app]
                  refine ⟨by simpa [hkh] using z1, by simpa [hkh] using z2, by simpa [hkh] using z3, by simpa [hkh] using z4, by simpa [hkh] using z5, by simpa [hkh] using z6, ?_⟩
                  intro i hi
                  have hi : (i : Int) < c 53 k := by simpa [hkh] using hi
                  have := e1 i hi z6
                  simpa [hkh, this] using z7 i hi
            · exact ((Fr.up (by unfold cSh; omega)).trans (Fr.up (by unfold cSh; omega))).trans (Fr.fz (by unfold cSh; omega))
            · exact (((Fr.up (by unfold mSh; omega)).trans (Fr.up (by unfold mSh; omega))).trans (Fr.up (by unfold mSh; omega))).trans (Fr.fz (by unfold mSh; omega))
    · rw [if_neg ha]
      refine ⟨c, r, -2, ?_, rfl, H, Fr.refl, Fr.refl⟩
      by_cases ha2 : a1 < -1
      · rw [if_pos ha2]
      · rw [if_neg ha2, if_pos (by omega)]
  · rw [if_neg hs, if_neg hs]
    exact ⟨c, r, -2, rfl, rfl, H, Fr.refl, Fr.refl⟩
