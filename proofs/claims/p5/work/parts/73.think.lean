theorem e_as65 {N : Nat} (r : St) : ∀ (k m : Nat) (d : St) (p : Nat), p + k = 12288 → k < m → (∀ q, q < p → d 107 q = r 91 q ∧ d 108 q = r 92 q ∧ d 109 q = r 93 q) → (∀ a k, ¬ (107 ≤ a ∧ a ≤ 109) → d a k = r a k) → One (d_x8_laysAside_65L N m d (p : Int)) (fun r' _ => (∀ q, q < 12288 → r' 107 q = r 91 q ∧ r' 108 q = r 92 q ∧ r' 109 q = r 93 q) ∧ ∀ a k, ¬ (107 ≤ a ∧ a ≤ 109) → r' a k = r a k) := by
  intro k
  induction k with
  | zero =>
    intro m d p hp hm h1 h2
    obtain ⟨m, rfl⟩ : ∃ m', m = m' + 1 := ⟨m - 1, by omega⟩
    show One (d_x8_laysAside_65 N (d_x8_laysAside_65L N m) d p) _
    unfold d_x8_laysAside_65
    (repeat (first | with_reducible refine One.bd ?_ | (with_reducible refine One.i ?_ ?_; · ((try simp (disch := omega) only [w32i, Int.toNat_natCast]) <;> omega)) | (with_reducible refine One.e ?_ ?_; · ((try simp (disch := omega) only [w32i, Int.toNat_natCast]) <;> omega))))
    exact One.ret ⟨fun q hq => h1 q (by omega), h2⟩
  | succ k ih =>
    intro m d p hp hm h1 h2
    obtain ⟨m, rfl⟩ : ∃ m', m = m' + 1 := ⟨m - 1, by omega⟩
    show One (d_x8_laysAside_65 N (d_x8_laysAside_65L N m) d p) _
    unfold d_x8_laysAside_65
    (repeat (first | with_reducible refine One.bd ?_ | (with_reducible refine One.i ?_ ?_; · ((try simp (disch := omega) only [w32i, Int.toNat_natCast]) <;> omega)) | (with_reducible refine One.e ?_ ?_; · ((try simp (disch := omega) only [w32i, Int.toNat_natCast]) <;> omega))))
    rw [w32i (x := (p : Int)) (by omega) (by omega), Int.toNat_natCast]
    refine ih m _ (p + 1) (by omega) (by omega) (fun q hq => ?_) (fun a k z => ?_)
    · by_cases e : q = p
      · subst e
        simp (disch := omega) only [up_ne, up_same]
        exact ⟨h2 _ _ (by omega), h2 _ _ (by omega), h2 _ _ (by omega)⟩
      · simp (disch := omega) only [up_ne, up_nj]
        exact h1 q (by omega)
    · simp (disch := omega) only [up_ne]
      exact h2 a k z
theorem e_as2 {N : Nat} (hN : 20000 ≤ N) (r : St) : ∀ (k m : Nat) (d : St) (p : Nat), p + k = 192 → k < m → (∀ q, q < p → d 103 q = r 86 q ∧ d 104 q = r 87 q ∧ d 105 q = r 89 q ∧ d 106 q = r 90 q) → (∀ a k, ¬ (103 ≤ a ∧ a ≤ 106) → d a k = r a k) → One (d_x8_laysAside_2L N m d (p : Int)) (fun r' _ => (∀ q, q < 192 → r' 103 q = r 86 q ∧ r' 104 q = r 87 q ∧ r' 105 q = r 89 q ∧ r' 106 q = r 90 q) ∧ (∀ q, q < 12288 → r' 107 q = r 91 q ∧ r' 108 q = r 92 q ∧ r' 109 q = r 93 q) ∧ ∀ a k, ¬ (103 ≤ a ∧ a ≤ 109) → r' a k = r a k) := by
  intro k
  induction k with
  | zero =>
    intro m d p hp hm h1 h2
    obtain ⟨m, rfl⟩ : ∃ m', m = m' + 1 := ⟨m - 1, by omega⟩
    show One (d_x8_laysAside_2 N (d_x8_laysAside_2L N m) d p) _
    unfold d_x8_laysAside_2
    (repeat (first | with_reducible refine One.bd ?_ | (with_reducible refine One.i ?_ ?_; · ((try simp (disch := omega) only [w32i, Int.toNat_natCast]) <;> omega)) | (with_reducible refine One.e ?_ ?_; · ((try simp (disch := omega) only [w32i, Int.toNat_natCast]) <;> omega))))
    refine One.mono (e_as65 d 12288 N d 0 (by omega) (by omega) (fun q hq => by omega) (fun _ _ _ => rfl)) (fun r' v q => ⟨fun j hj => ?_, fun j hj => ?_, fun a k z => ?_⟩)
    · rw [q.2 103 j (by omega), q.2 104 j (by omega), q.2 105 j (by omega), q.2 106 j (by omega)]
      exact h1 j (by omega)
    · have := q.1 j hj
      rw [h2 91 j (by omega), h2 92 j (by omega), h2 93 j (by omega)] at this
      exact this
    · rw [q.2 a k (by omega)]
      exact h2 a k (by omega)
  | succ k ih =>
    intro m d p hp hm h1 h2
    obtain ⟨m, rfl⟩ : ∃ m', m = m' + 1 := ⟨m - 1, by omega⟩
    show One (d_x8_laysAside_2 N (d_x8_laysAside_2L N m) d p) _
    unfold d_x8_laysAside_2
    (repeat (first | with_reducible refine One.bd ?_ | (with_reducible refine One.i ?_ ?_; · ((try simp (disch := omega) only [w32i, Int.toNat_natCast]) <;> omega)) | (with_reducible refine One.e ?_ ?_; · ((try simp (disch := omega) only [w32i, Int.toNat_natCast]) <;> omega))))
    rw [w32i (x := (p : Int)) (by omega) (by omega), Int.toNat_natCast]
    refine ih m _ (p + 1) (by omega) (by omega) (fun q hq => ?_) (fun a k z => ?_)
    · by_cases e : q = p
      · subst e
        simp (disch := omega) only [up_ne, up_same]
        exact ⟨h2 _ _ (by omega), h2 _ _ (by omega), h2 _ _ (by omega), h2 _ _ (by omega)⟩
      · simp (disch := omega) only [up_ne, up_nj]
        exact h1 q (by omega)
    · simp (disch := omega) only [up_ne]
      exact h2 a k z
theorem e_aside {N : Nat} (hN : 20000 ≤ N) (r : St) : One (d_x8_laysAside N r) (fun r' _ => (∀ q, q < 192 → r' 103 q = r 86 q ∧ r' 104 q = r 87 q ∧ r' 105 q = r 89 q ∧ r' 106 q = r 90 q) ∧ (∀ q, q < 12288 → r' 107 q = r 91 q ∧ r' 108 q = r 92 q ∧ r' 109 q = r 93 q) ∧ ∀ a k, ¬ (103 ≤ a ∧ a ≤ 109) → r' a k = r a k) := e_as2 hN r 192 N r 0 (by omega) (by omega) (fun q hq => by omega) (fun _ _ _ => rfl)
theorem e_bk65 {N : Nat} (r : St) : ∀ (k m : Nat) (d : St) (p : Nat), p + k = 12288 → k < m → (∀ q, q < p → d 91 q = r 107 q ∧ d 92 q = r 108 q ∧ d 93 q = r 109 q) → (∀ a k, ¬ (91 ≤ a ∧ a ≤ 93) → d a k = r a k) → One (d_x8_laysBack_65L N m d (p : Int)) (fun r' _ => (∀ q, q < 12288 → r' 91 q = r 107 q ∧ r' 92 q = r 108 q ∧ r' 93 q = r 109 q) ∧ ∀ a k, ¬ (91 ≤ a ∧ a ≤ 93) → r' a k = r a k) := by
  intro k
  induction k with
  | zero =>
    intro m d p hp hm h1 h2
    obtain ⟨m, rfl⟩ : ∃ m', m = m' + 1 := ⟨m - 1, by omega⟩
    show One (d_x8_laysBack_65 N (d_x8_laysBack_65L N m) d p) _
    unfold d_x8_laysBack_65
    (repeat (first | with_reducible refine One.bd ?_ | (with_reducible refine One.i ?_ ?_; · ((try simp (disch := omega) only [w32i, Int.toNat_natCast]) <;> omega)) | (with_reducible refine One.e ?_ ?_; · ((try simp (disch := omega) only [w32i, Int.toNat_natCast]) <;> omega))))
    exact One.ret ⟨fun q hq => h1 q (by omega), h2⟩
  | succ k ih =>
    intro m d p hp hm h1 h2
    obtain ⟨m, rfl⟩ : ∃ m', m = m' + 1 := ⟨m - 1, by omega⟩
    show One (d_x8_laysBack_65 N (d_x8_laysBack_65L N m) d p) _
    unfold d_x8_laysBack_65
    (repeat (first | with_reducible refine One.bd ?_ | (with_reducible refine One.i ?_ ?_; · ((try simp (disch := omega) only [w32i, Int.toNat_natCast]) <;> omega)) | (with_reducible refine One.e ?_ ?_; · ((try simp (disch := omega) only [w32i, Int.toNat_natCast]) <;> omega))))
    rw [w32i (x := (p : Int)) (by omega) (by omega), Int.toNat_natCast]
    refine ih m _ (p + 1) (by omega) (by omega) (fun q hq => ?_) (fun a k z => ?_)
    · by_cases e : q = p
      · subst e
        simp (disch := omega) only [up_ne, up_same]
        exact ⟨h2 _ _ (by omega), h2 _ _ (by omega), h2 _ _ (by omega)⟩
      · simp (disch := omega) only [up_ne, up_nj]
        exact h1 q (by omega)
    · simp (disch := omega) only [up_ne]
      exact h2 a k z
theorem e_bk2 {N : Nat} (hN : 20000 ≤ N) (r : St) : ∀ (k m : Nat) (d : St) (p : Nat), p + k = 192 → k < m → (∀ q, q < p → d 86 q = r 103 q ∧ d 87 q = r 104 q ∧ d 89 q = r 105 q ∧ d 90 q = r 106 q) → (∀ a k, ¬ (86 ≤ a ∧ a ≤ 90 ∧ a ≠ 88) → d a k = r a k) → One (d_x8_laysBack_2L N m d (p : Int)) (fun r' _ => (∀ q, q < 192 → r' 86 q = r 103 q ∧ r' 87 q = r 104 q ∧ r' 89 q = r 105 q ∧ r' 90 q = r 106 q) ∧ (∀ q, q < 12288 → r' 91 q = r 107 q ∧ r' 92 q = r 108 q ∧ r' 93 q = r 109 q) ∧ ∀ a k, ¬ (86 ≤ a ∧ a ≤ 93 ∧ a ≠ 88) → r' a k = r a k) := by
  intro k
  induction k with
  | zero =>
    intro m d p hp hm h1 h2
    obtain ⟨m, rfl⟩ : ∃ m', m = m' + 1 := ⟨m - 1, by omega⟩
    show One (d_x8_laysBack_2 N (d_x8_laysBack_2L N m) d p) _
    unfold d_x8_laysBack_2
    (repeat (first | with_reducible refine One.bd ?_ | (with_reducible refine One.i ?_ ?_; · ((try simp (disch := omega) only [w32i, Int.toNat_natCast]) <;> omega)) | (with_reducible refine One.e ?_ ?_; · ((try simp (disch := omega) only [w32i, Int.toNat_natCast]) <;> omega))))
    refine One.mono (e_bk65 d 12288 N d 0 (by omega) (by omega) (fun q hq => by omega) (fun _ _ _ => rfl)) (fun r' v q => ⟨fun j hj => ?_, fun j hj => ?_, fun a k z => ?_⟩)
    · rw [q.2 86 j (by omega), q.2 87 j (by omega), q.2 89 j (by omega), q.2 90 j (by omega)]
      exact h1 j (by omega)
    · have := q.1 j hj
      rw [h2 107 j (by omega), h2 108 j (by omega), h2 109 j (by omega)] at this
      exact this
    · rw [q.2 a k (by omega)]
      exact h2 a k (by omega)
  | succ k ih =>
    intro m d p hp hm h1 h2
    obtain ⟨m, rfl⟩ : ∃ m', m = m' + 1 := ⟨m - 1, by omega⟩
    show One (d_x8_laysBack_2 N (d_x8_laysBack_2L N m) d p) _
    unfold d_x8_laysBack_2
    (repeat (first | with_reducible refine One.bd ?_ | (with_reducible refine One.i ?_ ?_; · ((try simp (disch := omega) only [w32i, Int.toNat_natCast]) <;> omega)) | (with_reducible refine One.e ?_ ?_; · ((try simp (disch := omega) only [w32i, Int.toNat_natCast]) <;> omega))))
    rw [w32i (x := (p : Int)) (by omega) (by omega), Int.toNat_natCast]
    refine ih m _ (p + 1) (by omega) (by omega) (fun q hq => ?_) (fun a k z => ?_)
    · by_cases e : q = p
      · subst e
        simp (disch := omega) only [up_ne, up_same]
        exact ⟨h2 _ _ (by omega), h2 _ _ (by omega), h2 _ _ (by omega), h2 _ _ (by omega)⟩
      · simp (disch := omega) only [up_ne, up_nj]
        exact h1 q (by omega)
    · simp (disch := omega) only [up_ne]
      exact h2 a k z
theorem e_back8 {N : Nat} (hN : 20000 ≤ N) (r : St) : One (d_x8_laysBack N r) (fun r' _ => (∀ q, q < 192 → r' 86 q = r 103 q ∧ r' 87 q = r 104 q ∧ r' 89 q = r 105 q ∧ r' 90 q = r 106 q) ∧ (∀ q, q < 12288 → r' 91 q = r 107 q ∧ r' 92 q = r 108 q ∧ r' 93 q = r 109 q) ∧ ∀ a k, ¬ (86 ≤ a ∧ a ≤ 93 ∧ a ≠ 88) → r' a k = r a k) := e_bk2 hN r 192 N r 0 (by omega) (by omega) (fun q hq => by omega) (fun _ _ _ => rfl)
/-- what is told by the model is as it was -/
def RS (r r' : St) : Prop := (∀ q, q < 192 → r' 86 q = r 86 q ∧ r' 87 q = r 87 q ∧ r' 89 q = r 89 q ∧ r' 90 q = r 90 q ∧ r' 88 q = 0) ∧ ∀ q, q < 12288 → r' 91 q = r 91 q ∧ r' 92 q = r 92 q ∧ r' 93 q = r 93 q
theorem RS.er {r r' : St} (H : RS r r') : ∀ a k, 86 ≤ a → a ≤ 93 → a ≠ 88 → ((a = 91 ∨ a = 92 ∨ a = 93) → k < 12288) → (a < 91 → k < 192) → r' a k = r a k := by
  intro a k h1 h2 h3 h4 h5
  have : a = 86 ∨ a = 87 ∨ a = 89 ∨ a = 90 ∨ a = 91 ∨ a = 92 ∨ a = 93 := by omega
  rcases this with rfl | rfl | rfl | rfl | rfl | rfl | rfl
  · exact (H.1 k (h5 (by omega))).1
  · exact (H.1 k (h5 (by omega))).2.1
  · exact (H.1 k (h5 (by omega))).2.2.1
  · exact (H.1 k (h5 (by omega))).2.2.2.1
  · exact (H.2 k (h4 (by omega))).1
  · exact (H.2 k (h4 (by omega))).2.1
  · exact (H.2 k (h4 (by omega))).2.2
theorem RS.refl {t : Nat} {T c r : St} (S : TS t T c r) (I : ID t c) : RS r r := by
  refine ⟨fun q hq => ⟨rfl, rfl, rfl, rfl, ?_⟩, fun q hq => ⟨rfl, rfl, rfl⟩⟩
  have h := S.1 q hq
  unfold TP at h
  have := (I q hq).1
  omega
/-- after thinking all stands as before -/
theorem S_think {c r c' r' : St} (H : RG c r) (ec : ∀ a k, ¬ (a = 50 ∨ (38 ≤ a ∧ a ≤ 49)) → c' a k = c a k) (er : ∀ a k, ¬ (a = 77 ∨ (86 ≤ a ∧ a ≤ 93) ∨ (103 ≤ a ∧ a ≤ 109)) → r' a k = r a k) (er7 : ∀ k, k ≠ 36 → k ≠ 37 → k ≠ 38 → r' 77 k = r 77 k) (hs : RS r r') (hu : UT 38 c') (v : Int) : QG c r c' r' v := by
  have htx : tx c' r' = tx c r := tx_cong (fun a k _ _ => ec a k (by omega)) (fun a k _ _ => er a k (by omega))
  have hT := H.2.1
  have hce : CE 26 26 c c' := by
    refine ⟨ec _ _ (by omega), fun m hm => ec _ _ (by omega), fun p hp => ?_, fun k hk => by rw [ec _ _ (by omega)]; exact hT.2.1.2.2.2.2.2 k hk⟩
    unfold CD
    rw [ec _ _ (by omega), ec _ _ (by omega), ec _ _ (by omega), ec _ _ (by omega), ec _ _ (by omega), ec _ _ (by omega), ec _ _ (by omega)]
    exact ⟨rfl, rfl, rfl, (hT.2.2.2 p hp).1, rfl, rfl, rfl, fun i hi => ec _ _ (by omega), fun i hi => ⟨ec _ _ (by omega), ec _ _ (by omega)⟩⟩
  have hts := hce.ts hT.2.1 hT.2.2.1 (r' := r') hs.er (fun p hp => (hs.1 p hp).2.2.2.2) (fun p hp => (hT.2.2.2 p hp).1)
  refine ⟨⟨H.1.cong (ec _ _ (by omega)) (fun k => ec _ _ (by omega)) (er7 _ (by omega) (by omega) (by omega)) (fun k => er _ _ (by omega)), ?_, ⟨hu, H.2.2.1.2.cong (fun a k _ _ => ec _ _ (by omega))⟩, H.2.2.2.1.cong (fun a k _ _ => ec _ _ (by omega)) (ec _ _ (by omega)) (ec _ _ (by omega)) (fun a k _ _ => er _ _ (by omega)) (er7 _ (by omega) (by omega) (by omega)) (er7 _ (by omega) (by omega) (by omega)), H.2.2.2.2.1.cong (fun a k _ _ => ec _ _ (by omega)) (fun a k _ _ => er _ _ (by omega)), H.2.2.2.2.2.1.cong (ec _ _ (by omega)) (er7 _ (by omega) (by omega) (by omega)), H.2.2.2.2.2.2.cong (ec _ _ (by omega)) (er7 _ (by omega) (by omega) (by omega))⟩, fun a k _ => ec a k (by omega), fun a k _ => er a k (by omega)⟩
  unfold TT
  rw [htx]
  exact ⟨hT.1, hts.1, hts.2, hT.2.2.2.cong (fun a k _ _ => ec _ _ (by omega))⟩
/-- thinking begins with what is told -/
theorem T_begin {T c r c1 r1 : St} (W : WT T) (hc : ct c1 T) (hr : rt r1 T) (S : TS 38 T c1 r1) (M : MT 38 T c1) {lim lim' : Int} (hl : 0 ≤ lim ∧ lim ≤ 99) (hl' : lim' = lim) : TI 38 T (up (up (up c1 50 1 ((38 : Nat) : Int)) 50 2 lim) 50 3 0) (up (up r1 77 36 0) 77 37 lim') := by
  refine ⟨⟨W, (hc.up (by omega)).up (by omega) |>.up (by omega), (hr.up (by omega)).up (by omega)⟩, ?_, M.cong (fun a k _ _ => by rw [up_ne (by omega), up_ne (by omega), up_ne (by omega)]), S.cong (fun a k _ _ => by rw [up_ne (by omega), up_ne (by omega), up_ne (by omega)]) (fun a k _ _ => by rw [up_ne (by omega), up_ne (by omega)])⟩
  unfold TR
  simp (disch := omega) only [up_same, up_nj, true_and]
  omega
/-- need() -/
theorem r_need {N : Nat} (hN : 20000 ≤ N) {c r : St} {a0 a1 : Int} (h0 : r32 a0) (h1 : r32 a1) (H : RG c r) : Two (d_x7_need N c a0 a1) (d_x8_need N r a0 a1) (QG c r) := by
  have hp := H.p18
  unfold d_x7_need d_x8_need
  refine Two.cL (Rp h0 h1 (fun a ha => (hp a ha).1)) ?_
  by_cases hs : 0 ≤ a0 ∧ a0 < 8
  · refine Two.cR (S8t h0 hs) (Two.eR (by decide) ?_)
    by_cases hi : 0 ≤ a1 ∧ a1 ≤ 63
    · refine Two.cR (int h1 (by unfold r32; omega) (by unfold r32; omega) hi) (Two.eR (by decide) ?_)
      obtain ⟨s, rfl⟩ : ∃ s : Nat, a0 = s := ⟨a0.toNat, by omega⟩
      have hps := hp s (by omega)
      rw [if_pos (show (0 ≤ (s : Int) ∧ (s : Int) < 8) ∧ 0 ≤ a1 ∧ a1 ≤ 63 from ⟨hs, hi⟩), Int.toNat_natCast]
      by_cases he : c 18 s = 0
      · rw [if_pos he]
        refine Two.eL (by decide) ?_
        (repeat (first | with_reducible refine Two.bdR ?_ | (with_reducible refine Two.iR ?_ ?_; · ((try simp (disch := omega) only [w32i, Int.toNat_natCast]) <;> omega)) | (with_reducible refine Two.eR ?_ ?_; · ((try simp (disch := omega) only [w32i, Int.toNat_natCast]) <;> omega))))
        exact Two.ret rfl (QG.refl H _)
      · rw [if_neg he]
        refine Two.iL (by decide) ?_
        (repeat (first | with_reducible refine Two.bdR ?_ | (with_reducible refine Two.iR ?_ ?_; · ((try simp (disch := omega) only [w32i, Int.toNat_natCast]) <;> omega)) | (with_reducible refine Two.eR ?_ ?_; · ((try simp (disch := omega) only [w32i, Int.toNat_natCast]) <;> omega))))
        have hT := H.2.1
        refine Two.oLV (e_take (t := 38) (t2 := 26) (by omega) (by omega) H.2.2.1.1 (UT.of hT.2.2.1 hT.2.1)) (fun c1 _ qc => ?_)
        refine Two.oRV (e_aside hN r) (fun r1 _ qr => ?_)
        obtain ⟨C1, ec1⟩ := qc
        obtain ⟨a1', a2', er1⟩ := qr
        have hrs : RS r r := RS.refl hT.2.1 hT.2.2.2
        have hts := C1.ts hT.2.1 hT.2.2.1 (r' := r1) (fun a k _ _ _ _ _ => er1 a k (by omega)) (fun p hp => by rw [er1 _ _ (by omega)]; exact (hrs.1 p hp).2.2.2.2) (fun p hp => (hT.2.2.2 p hp).1)
        have TB := T_begin (c := c) (r := r) hT.1.1 (fun a k x y => (ec1 a k (by omega)).trans (tx_ct c r a k x y)) (fun a k x y => (er1 a k (by omega)).trans (tx_rt c r a k x y)) hts.1 hts.2 (lim := 99) (lim' := 99) (by omega) rfl
        refine Two.vL (s := up (up (up c1 50 1 ((38 : Nat) : Int)) 50 2 99) 50 3 0) (v := 0) rfl ?_
        refine Two.vR (s := up (up r1 77 36 0) 77 37 99) (v := 0) rfl ?_
        refine Two.call (L_out (Or.inr rfl) (by omega) TB (s := s) (by omega) (by rw [← tx_ct c r 18 s (by omega) (by omega)]; exact he) (y := a1) (by omega)) (fun c2 r2 v2 q2 => ?_)
        obtain ⟨H2, M2, F2, A2, V2⟩ := q2
        have g2 := A2.rng
        have hR := H2.R
        unfold TR at hR
        refine Two.oRV (e_back8 hN r2) (fun r3 _ q3 => ?_)
        obtain ⟨b1, b2, er3⟩ := q3
        have er2 : ∀ a k, ¬ (a = 77 ∨ (86 ≤ a ∧ a ≤ 93) ∨ (103 ≤ a ∧ a ≤ 109)) → r2 a k = r a k := fun a k z => by rw [F2.1 a k (by omega), up_ne (by omega), up_ne (by omega)]; exact er1 a k (by omega)
        have er23 : ∀ a k, 103 ≤ a → a ≤ 109 → r2 a k = r1 a k := fun a k _ _ => by rw [F2.1 a k (by omega), up_ne (by omega), up_ne (by omega)]
        have r36 : r3 77 36 = r2 77 36 := er3 _ _ (by omega)
        have fin : ∀ v, QG c r c2 r3 v := by
          intro v
          refine S_think H (fun a k z => ?_) (fun a k z => ?_) (fun k z y w => ?_) ⟨fun q hq => ?_, fun q hq => ?_⟩ (UT.of H2.T H2.S) v
          · rw [M2.1 a k (by omega), up_ne (by omega), up_ne (by omega), up_ne (by omega)]
            exact ec1 a k (by omega)
          · rw [er3 a k (by omega)]
            exact er2 a k z
          · rw [er3 _ _ (by omega), F2.2 k z w, up_nj (by omega), up_nj (by omega)]
            exact er1 _ _ (by omega)
          · have x := b1 q hq
            have y := a1' q hq
            rw [er23 _ _ (by omega) (by omega), er23 _ _ (by omega) (by omega), er23 _ _ (by omega) (by omega), er23 _ _ (by omega) (by omega), y.1, y.2.1, y.2.2.1, y.2.2.2] at x
            refine ⟨x.1, x.2.1, x.2.2.1, x.2.2.2, ?_⟩
            rw [er3 _ _ (by omega)]
            have w := H2.P hq
            unfold TP at w
            rw [w.2.2.2.2.1, (M2.2.2.2.1 q hq).2.1, up_ne (by omega), up_ne (by omega), up_ne (by omega)]
            exact (C1.2.2.1 q hq).2.2.2.1
          · have x := b2 q hq
            have y := a2' q hq
            rw [er23 _ _ (by omega) (by omega), er23 _ _ (by omega) (by omega), er23 _ _ (by omega) (by omega), y.1, y.2.1, y.2.2] at x
            exact x
        by_cases h6 : v2 = -6
        · refine Two.iL (by ((try simp (disch := omega) only [w32i, Int.toNat_natCast]) <;> omega)) (Two.iR (by ((try simp (disch := omega) only [w32i, Int.toNat_natCast]) <;> omega)) ?_)
          exact Two.ret rfl (fin _)
        · refine Two.eL (by ((try simp (disch := omega) only [w32i, Int.toNat_natCast]) <;> omega)) (Two.eR (by ((try simp (disch := omega) only [w32i, Int.toNat_natCast]) <;> omega)) ?_)
          exact Two.ret (by rw [r36]; exact hR.2.2.1) (fin _)
    · refine Two.cR (inf h1 (by unfold r32; omega) (by unfold r32; omega) hi) (Two.iR (by decide) ?_)
      rw [if_neg (show ¬ ((0 ≤ a0 ∧ a0 < 8) ∧ 0 ≤ a1 ∧ a1 ≤ 63) from fun z => hi z.2)]
      refine Two.eL (by decide) ?_
      exact Two.ret rfl (QG.refl H _)
  · refine Two.cR (S8f h0 hs) (Two.iR (by decide) ?_)
    rw [if_neg (show ¬ ((0 ≤ a0 ∧ a0 < 8) ∧ 0 ≤ a1 ∧ a1 ≤ 63) from fun z => hs z.1)]
    refine Two.eL (by decide) ?_
    exact Two.ret rfl (QG.refl H _)
