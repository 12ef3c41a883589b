section
theorem L_merge {t N : Nat} {T c r : St} {f : Int} {A Hd P Q : St → Int → Int → Option Rs} (h2 : T2 t) (IHp : AP t T f A P) (IH : AH t T f Hd Q) (H : TI t T c r) {p i : Nat} (hp : VP T p) (hk : T 19 p = 7) (hi : i < 64) (hpl : c (t + 1) p = i) (htl : c (t + 4) p = 1) (hf : c 50 2 < f + c 50 3) : Two (d_x4_mergePlace N A Hd t c (p : Int) (i : Int)) (d_x8_tellsPlace N P Q r (p : Int) (i : Int)) (QT t T c r p i) := by
  have hp1 := hp.1
  have w := H.W.2 p hp
  have w1 := w.1
  have n3 := (w.2.2.2.2.2.2.2.2.2.2.2.1 (by omega)).1
  have n6 := (w.2.2.2.2.2.2.2.2.2.2.2.2 (by omega)).1
  have hR1 : c 50 1 = (t : Int) := H.R.1
  have k79 := H.rt 79 p (by omega) (by omega)
  have hN7 := (H.N hp).2 hk
  have nx : ∀ (c' : St) (m : Int), NX t T c' p m := fun c' m => NX.no (by omega) (by omega)
  have hg1 : 0 ≤ w32 (p : Int) ∧ w32 (p : Int) < ((192 : Nat) : Int) := (by ((try simp (disch := omega) only [w32i, Int.toNat_natCast]) <;> omega))
  have e64 : ((p : Int) * 64 + (i : Int)).toNat = 64 * p + i := by omega
  have e64' : (64 * (p : Int) + (i : Int)).toNat = 64 * p + i := by omega
  have hg : 0 ≤ w32 ((p : Int) * 64 + (i : Int)) ∧ w32 ((p : Int) * 64 + (i : Int)) < ((12288 : Nat) : Int) := (by ((try simp (disch := omega) only [w32i, Int.toNat_natCast]) <;> omega))
  have hg' : 0 ≤ w32 (64 * (p : Int) + (i : Int)) ∧ w32 (64 * (p : Int) + (i : Int)) < ((12288 : Nat) : Int) := (by ((try simp (disch := omega) only [w32i, Int.toNat_natCast]) <;> omega))
  obtain ⟨x, hx⟩ : ∃ x, x = c (t + 5) p := ⟨_, rfl⟩
  obtain ⟨y, hy⟩ : ∃ y, y = c (t + 6) p := ⟨_, rfl⟩
  unfold d_x8_tellsPlace
  (repeat (first | with_reducible refine Two.bdR ?_ | (with_reducible refine Two.iR ?_ ?_; · ((try simp (disch := omega) only [w32i, Int.toNat_natCast]) <;> omega)) | (with_reducible refine Two.eR ?_ ?_; · ((try simp (disch := omega) only [w32i, Int.toNat_natCast]) <;> omega))))
  refine Two.tailR ?_
  unfold d_x4_mergePlace d_x8_merges
  refine Two.cL e_first ?_
  refine Two.cL (e_second H.ct H.W n3) ?_
  refine Two.iL hR1 (Two.iL hg1 (Two.bdL (Two.iL hR1 (Two.iL hg1 (Two.bdL ?_)))))
  refine Two.iR hg1 (Two.bdR (Two.iR hg1 (Two.bdR ?_)))
  refine Two.cR (e_other H.rt H.W n3) ?_
  rw [w32i (x := (p : Int)) (by omega) (by omega), Int.toNat_natCast, hN7.1, hN7.2.1, ← hx, ← hy]
  rw [← hx, ← hy] at hN7
  have hx0 := hN7.2.2
  clear hN7
  refine Two.call (IHp c r (p + 1) _ _ _ _ x H n3 rfl (by omega) rfl rfl (by omega) (by omega) hf) (fun c1 r1 v1 q1 => ?_)
  obtain ⟨H1, M1, F1, A1, V1⟩ := q1
  have g1 := A1.rng
  by_cases ha : v1 = 1 ∨ v1 = 0
  case neg =>
    have hneg : v1 < 0 := by
      unfold An at A1
      omega
    (repeat (first | with_reducible refine Two.bdL ?_ | with_reducible refine Two.bdR ?_ | (with_reducible refine Two.iL ?_ ?_; · ((try simp (disch := omega) only [w32i, Int.toNat_natCast]) <;> omega)) | (with_reducible refine Two.eL ?_ ?_; · ((try simp (disch := omega) only [w32i, Int.toNat_natCast]) <;> omega)) | (with_reducible refine Two.iR ?_ ?_; · ((try simp (disch := omega) only [w32i, Int.toNat_natCast]) <;> omega)) | (with_reducible refine Two.eR ?_ ?_; · ((try simp (disch := omega) only [w32i, Int.toNat_natCast]) <;> omega))))
    exact Two.ret rfl ⟨H1, M1.any, F1, A1, fun z => absurd (Or.inl z) ha, fun _ => nx _ _⟩
  case pos =>
  have to64 : ∀ (B : Option Rs), Two (d_x4_mergePlace_64 N A Hd t c1 (p : Int) (i : Int) ((p + 1 : Nat) : Int) ((p + 1 + (T 23 (p + 1)).toNat : Nat) : Int) x y v1) B (QT t T c r p i) → Two (if w32 v1 = 1 then d_x4_mergePlace_64 N A Hd t c1 (p : Int) (i : Int) ((p + 1 : Nat) : Int) ((p + 1 + (T 23 (p + 1)).toNat : Nat) : Int) x y v1 else if w32 v1 = 0 then d_x4_mergePlace_64 N A Hd t c1 (p : Int) (i : Int) ((p + 1 : Nat) : Int) ((p + 1 + (T 23 (p + 1)).toNat : Nat) : Int) x y v1 else some (c1, v1)) B (QT t T c r p i) := by
    intro B hB
    rcases ha with z | z
    · exact Two.iL (by ((try simp (disch := omega) only [w32i, Int.toNat_natCast]) <;> omega)) hB
    · exact Two.eL (by ((try simp (disch := omega) only [w32i, Int.toNat_natCast]) <;> omega)) (Two.iL (by ((try simp (disch := omega) only [w32i, Int.toNat_natCast]) <;> omega)) hB)
  refine to64 _ ?_
  unfold d_x4_mergePlace_64
  (repeat (first | with_reducible refine Two.bdR ?_ | (with_reducible refine Two.iR ?_ ?_; · ((try simp (disch := omega) only [w32i, Int.toNat_natCast]) <;> omega)) | (with_reducible refine Two.eR ?_ ?_; · ((try simp (disch := omega) only [w32i, Int.toNat_natCast]) <;> omega))))
  refine Two.call (IHp c1 r1 _ _ _ _ _ y H1 n6 rfl rfl rfl rfl (by omega) (by omega) (M1.f hf)) (fun c2 r2 v2 q2 => ?_)
  obtain ⟨H2, M2, F2, A2, V2⟩ := q2
  have g2 := A2.rng
  have M02 := M1.trans M2
  have F02 := F1.trans F2
  by_cases hb : v2 = 1 ∨ v2 = 0
  case neg =>
    have hneg : v2 < 0 := by
      unfold An at A2
      omega
    (repeat (first | with_reducible refine Two.bdL ?_ | with_reducible refine Two.bdR ?_ | (with_reducible refine Two.iL ?_ ?_; · ((try simp (disch := omega) only [w32i, Int.toNat_natCast]) <;> omega)) | (with_reducible refine Two.eL ?_ ?_; · ((try simp (disch := omega) only [w32i, Int.toNat_natCast]) <;> omega)) | (with_reducible refine Two.iR ?_ ?_; · ((try simp (disch := omega) only [w32i, Int.toNat_natCast]) <;> omega)) | (with_reducible refine Two.eR ?_ ?_; · ((try simp (disch := omega) only [w32i, Int.toNat_natCast]) <;> omega))))
    exact Two.ret rfl ⟨H2, M02.any, F02, A2, fun z => absurd (Or.inl z) hb, fun _ => nx _ _⟩
  case pos =>
  -- what is written at the end
  have fin : ∀ (c3 r3 : St) (fi se wh : Int), TI t T c3 r3 → Mo t 192 c c3 → Fm r r3 → (fi = 1 ∧ se = 0 ∧ wh = 0 ∧ Td t T c3 (p + 1) x) ∨ (fi = 0 ∧ se = 1 ∧ wh = 1 ∧ Td t T c3 (p + 1 + (T 23 (p + 1)).toNat) y) ∨ (fi = 1 ∧ se = 1 ∧ wh = 2 ∧ Td t T c3 (p + 1) x ∧ Td t T c3 (p + 1 + (T 23 (p + 1)).toNat) y) → Two (d_x4_mergePlace_211 N A Hd t c3 (p : Int) (i : Int) x y fi se) (d_x8_merges_172 N P Q r3 (p : Int) (i : Int) x y wh) (QT t T c r p i) := by
    intro c3 r3 fi se wh H3 M3 F3 hc
    have hR3 : c3 50 1 = (t : Int) := H3.R.1
    have htl3 : c3 (t + 4) p = 1 := by rw [(M3.2.2.2.1 p hp1).2.1]; exact htl
    have mm := (M3.2.2.2.1 p hp1).2.2.2 htl
    have hpl3 : c3 (t + 1) p = i := by rw [mm.1]; exact hpl
    have hx3 : c3 (t + 5) p = x := by rw [(mm.2.2 (by omega)).1, hx]
    have hy3 : c3 (t + 6) p = y := by rw [(mm.2.2 (by omega)).2, hy]
    have lt : ∀ (q : Nat) (z : Int), Td t T c3 q z → z ≤ 63 := by
      intro q z hz
      obtain ⟨q', a1, a2, a3, a4⟩ := hz
      have := H3.P a2
      unfold TP at this
      omega
    have u50 : ∀ (s : St) (a j : Nat) (v : Int), a ≠ 50 → s 50 1 = (t : Int) → up s a j v 50 1 = (t : Int) := by
      intro s a j v ha hs
      rw [up_ne (Ne.symm ha)]
      exact hs
    have t9 : t + 9 ≠ 50 := by unfold T2 at h2; omega
    have t5 : t + 5 ≠ 50 := by unfold T2 at h2; omega
    unfold d_x4_mergePlace_211 d_x8_merges_172
    rcases hc with ⟨rfl, rfl, rfl, hd⟩ | ⟨rfl, rfl, rfl, hd⟩ | ⟨rfl, rfl, rfl, hd, hd'⟩
    · have l1 := lt _ _ hd
      refine Two.iL hR3 (Two.eL (by decide) ?_)
      refine Two.eR (by decide) ?_
      unfold d_x4_mergePlace_239 d_x8_merges_200
      refine Two.iL hg (Two.bdL (Two.eL (by decide) (Two.iL (u50 _ _ _ _ t9 hR3) (Two.iL hg1 (Two.bdL ?_)))))
      refine Two.iR hg' (Two.bdR (Two.eR (by decide) ?_))
      unfold d_x4_mergePlace_259 d_x8_merges_219
      refine Two.iL (by decide) ?_
      refine Two.iR hg1 (Two.bdR (Two.iR (by decide) ?_))
      unfold d_x8_merges_239
      refine Two.iR hg1 (Two.bdR ?_)
      rw [w32i (x := (p : Int) * 64 + (i : Int)) (by omega) (by omega), e64, w8i (x := x) (by omega) (by omega), w8i (x := x) (by omega) (by omega), w32i (x := 64 * (p : Int) + (i : Int)) (by omega) (by omega), e64', w32i (x := (p : Int)) (by omega) (by omega), Int.toNat_natCast]
      have e9 : up (up c3 (t + 9) (64 * p + i) x) (t + 5) p (x + 1) (t + 9) (64 * p + i) = x := by rw [up_ne (by omega), up_same]
      have e5 : up (up c3 (t + 9) (64 * p + i) x) (t + 5) p (x + 1) (t + 5) p = x + 1 := up_same
      have e6 : up (up c3 (t + 9) (64 * p + i) x) (t + 5) p (x + 1) (t + 6) p = y := by rw [up_ne (by omega), up_ne (by omega)]; exact hy3
      have f93 : up (up (up r3 93 (64 * p + i) (2 * x)) 89 p (x + 1)) 90 p y 93 (64 * p + i) = 2 * x := by rw [up_ne (by omega), up_ne (by omega), up_same]
      have f89 : up (up (up r3 93 (64 * p + i) (2 * x)) 89 p (x + 1)) 90 p y 89 p = x + 1 := by rw [up_ne (by omega), up_same]
      have f90 : up (up (up r3 93 (64 * p + i) (2 * x)) 89 p (x + 1)) 90 p y 90 p = y := up_same
      have u := U_kept (c' := up (up c3 (t + 9) (64 * p + i) x) (t + 5) p (x + 1)) (r' := up (up (up r3 93 (64 * p + i) (2 * x)) 89 p (x + 1)) 90 p y) h2 H3 hp1 hi htl3 hpl3 (fun a k z1 z2 z3 => by rw [up_app, if_neg z2, up_app, if_neg z1]) (fun a k z1 z2 z3 => by rw [up_app, if_neg z3, up_app, if_neg z2, up_app, if_neg z1]) (by rw [e9]; omega) (fun _ => by rw [e5, e6, f89, f90]; omega)
      refine Two.ret rfl ⟨u.1, M3.any.trans u.2.1, F3.trans u.2.2, Or.inl rfl, fun _ => ⟨⟨fun z => by omega, fun _ => ?_⟩, ?_, nx _ _⟩, fun _ => nx _ _⟩
      · rw [e9, f93]; left; omega
      · refine ⟨fun z => by omega, fun z => by omega, fun z => by omega, fun z => by omega, fun z => by omega, fun z => by omega, fun _ => ?_, fun z => by omega⟩
        rw [e9]
        exact ⟨fun _ => hd.mo (fun q hq => by rw [up_ne (by omega), up_ne (by omega)]; exact Int.le_refl _), fun z => by omega⟩
    · have l1 := lt _ _ hd
      refine Two.iL hR3 (Two.iL (by decide) ?_)
      refine Two.iR (by decide) ?_
      unfold d_x4_mergePlace_239 d_x8_merges_200
      refine Two.iL hg (Two.bdL (Two.iL (by decide) ?_))
      refine Two.iR hg' (Two.bdR (Two.iR (by decide) ?_))
      unfold d_x4_mergePlace_259 d_x8_merges_219
      refine Two.eL (by decide) (Two.iL (u50 _ _ _ _ t9 hR3) (Two.iL hg1 (Two.bdL ?_)))
      refine Two.iR hg1 (Two.bdR (Two.eR (by decide) ?_))
      unfold d_x8_merges_239
      refine Two.iR hg1 (Two.bdR ?_)
      rw [w32i (x := (p : Int) * 64 + (i : Int)) (by omega) (by omega), e64, w8i (x := 64 + y) (by omega) (by omega), w8i (x := 64 + y) (by omega) (by omega), w32i (x := 64 * (p : Int) + (i : Int)) (by omega) (by omega), e64', w32i (x := (p : Int)) (by omega) (by omega), Int.toNat_natCast]
      have e9 : up (up c3 (t + 9) (64 * p + i) (64 + y)) (t + 6) p (y + 1) (t + 9) (64 * p + i) = 64 + y := by rw [up_ne (by omega), up_same]
      have e6 : up (up c3 (t + 9) (64 * p + i) (64 + y)) (t + 6) p (y + 1) (t + 6) p = y + 1 := up_same
      have e5 : up (up c3 (t + 9) (64 * p + i) (64 + y)) (t + 6) p (y + 1) (t + 5) p = x := by rw [up_ne (by omega), up_ne (by omega)]; exact hx3
      have f93 : up (up (up r3 93 (64 * p + i) (2 * y + 1)) 89 p x) 90 p (y + 1) 93 (64 * p + i) = 2 * y + 1 := by rw [up_ne (by omega), up_ne (by omega), up_same]
      have f89 : up (up (up r3 93 (64 * p + i) (2 * y + 1)) 89 p x) 90 p (y + 1) 89 p = x := by rw [up_ne (by omega), up_same]
      have f90 : up (up (up r3 93 (64 * p + i) (2 * y + 1)) 89 p x) 90 p (y + 1) 90 p = y + 1 := up_same
      have u := U_kept (c' := up (up c3 (t + 9) (64 * p + i) (64 + y)) (t + 6) p (y + 1)) (r' := up (up (up r3 93 (64 * p + i) (2 * y + 1)) 89 p x) 90 p (y + 1)) h2 H3 hp1 hi htl3 hpl3 (fun a k z1 z2 z3 => by rw [up_app, if_neg z3, up_app, if_neg z1]) (fun a k z1 z2 z3 => by rw [up_app, if_neg z3, up_app, if_neg z2, up_app, if_neg z1]) (by rw [e9]; omega) (fun _ => by rw [e5, e6, f89, f90]; omega)
      refine Two.ret rfl ⟨u.1, M3.any.trans u.2.1, F3.trans u.2.2, Or.inl rfl, fun _ => ⟨⟨fun z => by omega, fun _ => ?_⟩, ?_, nx _ _⟩, fun _ => nx _ _⟩
      · rw [e9, f93]; right; omega
      · refine ⟨fun z => by omega, fun z => by omega, fun z => by omega, fun z => by omega, fun z => by omega, fun z => by omega, fun _ => ?_, fun z => by omega⟩
        rw [e9, show 64 + y - 64 = y by omega]
        exact ⟨fun z => by omega, fun _ => hd.mo (fun q hq => by rw [up_ne (by omega), up_ne (by omega)]; exact Int.le_refl _)⟩
    · have l1 := lt _ _ hd
      have l2 := lt _ _ hd'
      refine Two.iL hR3 (Two.eL (by decide) ?_)
      refine Two.eR (by decide) ?_
      unfold d_x4_mergePlace_239 d_x8_merges_200
      refine Two.iL hg (Two.bdL (Two.eL (by decide) (Two.iL (u50 _ _ _ _ t9 hR3) (Two.iL hg1 (Two.bdL ?_)))))
      refine Two.iR hg' (Two.bdR (Two.eR (by decide) ?_))
      unfold d_x4_mergePlace_259 d_x8_merges_219
      refine Two.eL (by decide) (Two.iL (u50 _ _ _ _ t5 (u50 _ _ _ _ t9 hR3)) (Two.iL hg1 (Two.bdL ?_)))
      refine Two.iR hg1 (Two.bdR (Two.eR (by decide) ?_))
      unfold d_x8_merges_239
      refine Two.iR hg1 (Two.bdR ?_)
      rw [w32i (x := (p : Int) * 64 + (i : Int)) (by omega) (by omega), e64, w8i (x := x) (by omega) (by omega), w8i (x := x) (by omega) (by omega), w32i (x := 64 * (p : Int) + (i : Int)) (by omega) (by omega), e64', w32i (x := (p : Int)) (by omega) (by omega), Int.toNat_natCast]
      have e9 : up (up (up c3 (t + 9) (64 * p + i) x) (t + 5) p (x + 1)) (t + 6) p (y + 1) (t + 9) (64 * p + i) = x := by rw [up_ne (by omega), up_ne (by omega), up_same]
      have e5 : up (up (up c3 (t + 9) (64 * p + i) x) (t + 5) p (x + 1)) (t + 6) p (y + 1) (t + 5) p = x + 1 := by rw [up_ne (by omega), up_same]
      have e6 : up (up (up c3 (t + 9) (64 * p + i) x) (t + 5) p (x + 1)) (t + 6) p (y + 1) (t + 6) p = y + 1 := up_same
      have f93 : up (up (up r3 93 (64 * p + i) (2 * x)) 89 p (x + 1)) 90 p (y + 1) 93 (64 * p + i) = 2 * x := by rw [up_ne (by omega), up_ne (by omega), up_same]
      have f89 : up (up (up r3 93 (64 * p + i) (2 * x)) 89 p (x + 1)) 90 p (y + 1) 89 p = x + 1 := by rw [up_ne (by omega), up_same]
      have f90 : up (up (up r3 93 (64 * p + i) (2 * x)) 89 p (x + 1)) 90 p (y + 1) 90 p = y + 1 := up_same
      have u := U_kept (c' := up (up (up c3 (t + 9) (64 * p + i) x) (t + 5) p (x + 1)) (t + 6) p (y + 1)) (r' := up (up (up r3 93 (64 * p + i) (2 * x)) 89 p (x + 1)) 90 p (y + 1)) h2 H3 hp1 hi htl3 hpl3 (fun a k z1 z2 z3 => by rw [up_app, if_neg z3, up_app, if_neg z2, up_app, if_neg z1]) (fun a k z1 z2 z3 => by rw [up_app, if_neg z3, up_app, if_neg z2, up_app, if_neg z1]) (by rw [e9]; omega) (fun _ => by rw [e5, e6, f89, f90]; omega)
      refine Two.ret rfl ⟨u.1, M3.any.trans u.2.1, F3.trans u.2.2, Or.inl rfl, fun _ => ⟨⟨fun z => by omega, fun _ => ?_⟩, ?_, nx _ _⟩, fun _ => nx _ _⟩
      · rw [e9, f93]; left; omega
      · refine ⟨fun z => by omega, fun z => by omega, fun z => by omega, fun z => by omega, fun z => by omega, fun z => by omega, fun _ => ?_, fun z => by omega⟩
        rw [e9]
        exact ⟨fun _ => hd.mo (fun q hq => by rw [up_ne (by omega), up_ne (by omega), up_ne (by omega)]; exact Int.le_refl _), fun z => by omega⟩
  rcases ha with ha | ha
  · rcases hb with hb | hb
    · -- both are there
      subst ha hb
      have d1 := (V1 rfl).mo M2.pl
      have d2 := V2 rfl
      (repeat (first | with_reducible refine Two.bdL ?_ | with_reducible refine Two.bdR ?_ | (with_reducible refine Two.iL ?_ ?_; · ((try simp (disch := omega) only [w32i, Int.toNat_natCast]) <;> omega)) | (with_reducible refine Two.eL ?_ ?_; · ((try simp (disch := omega) only [w32i, Int.toNat_natCast]) <;> omega)) | (with_reducible refine Two.iR ?_ ?_; · ((try simp (disch := omega) only [w32i, Int.toNat_natCast]) <;> omega)) | (with_reducible refine Two.eR ?_ ?_; · ((try simp (disch := omega) only [w32i, Int.toNat_natCast]) <;> omega)) | unfold d_x4_mergePlace_88 | unfold d_x4_mergePlace_100 | unfold d_x4_mergePlace_110 | unfold d_x4_mergePlace_122 | unfold d_x8_merges_70 | unfold d_x8_merges_89))
      refine Two.call (IH c2 r2 (p + 1) _ _ _ _ x H2 n3 rfl (by omega) rfl rfl d1 (M2.f (M1.f hf))) (fun c3 r3 v3 q3 => ?_)
      obtain ⟨H3, M3, F3, A3, V3⟩ := q3
      have g3 := A3.rng
      by_cases hv3 : v3 = 1
      · (repeat (first | with_reducible refine Two.bdL ?_ | with_reducible refine Two.bdR ?_ | (with_reducible refine Two.iL ?_ ?_; · ((try simp (disch := omega) only [w32i, Int.toNat_natCast]) <;> omega)) | (with_reducible refine Two.eL ?_ ?_; · ((try simp (disch := omega) only [w32i, Int.toNat_natCast]) <;> omega)) | (with_reducible refine Two.iR ?_ ?_; · ((try simp (disch := omega) only [w32i, Int.toNat_natCast]) <;> omega)) | (with_reducible refine Two.eR ?_ ?_; · ((try simp (disch := omega) only [w32i, Int.toNat_natCast]) <;> omega))))
        refine Two.call (IH c3 r3 _ _ _ _ _ y H3 n6 rfl rfl rfl rfl (d2.mo M3.pl) (M3.f (M2.f (M1.f hf)))) (fun c4 r4 v4 q4 => ?_)
        obtain ⟨H4, M4, F4, A4, V4⟩ := q4
        have g4 := A4.rng
        have M04 := M02.trans (M3.trans M4)
        have F04 := F02.trans (F3.trans F4)
        have d1 := d1.mo (M3.trans M4).pl
        have d2 := d2.mo (M3.trans M4).pl
        by_cases hv4 : v4 = 1
        · rw [← V3 hv3, ← V4 hv4]
          (repeat (first | with_reducible refine Two.bdL ?_ | with_reducible refine Two.bdR ?_ | (with_reducible refine Two.iL ?_ ?_; · ((try simp (disch := omega) only [w32i, Int.toNat_natCast]) <;> omega)) | (with_reducible refine Two.eL ?_ ?_; · ((try simp (disch := omega) only [w32i, Int.toNat_natCast]) <;> omega)) | (with_reducible refine Two.iR ?_ ?_; · ((try simp (disch := omega) only [w32i, Int.toNat_natCast]) <;> omega)) | (with_reducible refine Two.eR ?_ ?_; · ((try simp (disch := omega) only [w32i, Int.toNat_natCast]) <;> omega))))
          by_cases l1 : w64 (c4 50 4) < w64 (c3 50 4)
          · refine Two.iL l1 (Two.eR (by omega) (Two.iR l1 ?_))
            unfold d_x4_mergePlace_192 d_x4_mergePlace_209 d_x8_merges_170
            refine Two.eL (by omega) ?_
            exact fin c4 r4 0 1 1 H4 M04 F04 (Or.inr (Or.inl ⟨rfl, rfl, rfl, d2⟩))
          · refine Two.eL l1 ?_
            unfold d_x4_mergePlace_192 d_x4_mergePlace_209 d_x8_merges_170
            by_cases l2 : w64 (c3 50 4) < w64 (c4 50 4)
            · refine Two.iL l2 (Two.iR l2 ?_)
              exact fin c4 r4 1 0 0 H4 M04 F04 (Or.inl ⟨rfl, rfl, rfl, d1⟩)
            · refine Two.eL l2 (Two.eR l2 (Two.eR l1 ?_))
              exact fin c4 r4 1 1 2 H4 M04 F04 (Or.inr (Or.inr ⟨rfl, rfl, rfl, d1, d2⟩))
        · (repeat (first | with_reducible refine Two.bdL ?_ | with_reducible refine Two.bdR ?_ | (with_reducible refine Two.iL ?_ ?_; · ((try simp (disch := omega) only [w32i, Int.toNat_natCast]) <;> omega)) | (with_reducible refine Two.eL ?_ ?_; · ((try simp (disch := omega) only [w32i, Int.toNat_natCast]) <;> omega)) | (with_reducible refine Two.iR ?_ ?_; · ((try simp (disch := omega) only [w32i, Int.toNat_natCast]) <;> omega)) | (with_reducible refine Two.eR ?_ ?_; · ((try simp (disch := omega) only [w32i, Int.toNat_natCast]) <;> omega))))
          exact Two.ret rfl ⟨H4, M04.any, F04, A4.an, fun z => absurd z hv4, fun _ => nx _ _⟩
      · (repeat (first | with_reducible refine Two.bdL ?_ | with_reducible refine Two.bdR ?_ | (with_reducible refine Two.iL ?_ ?_; · ((try simp (disch := omega) only [w32i, Int.toNat_natCast]) <;> omega)) | (with_reducible refine Two.eL ?_ ?_; · ((try simp (disch := omega) only [w32i, Int.toNat_natCast]) <;> omega)) | (with_reducible refine Two.iR ?_ ?_; · ((try simp (disch := omega) only [w32i, Int.toNat_natCast]) <;> omega)) | (with_reducible refine Two.eR ?_ ?_; · ((try simp (disch := omega) only [w32i, Int.toNat_natCast]) <;> omega))))
        exact Two.ret rfl ⟨H3, (M02.trans M3).any, F02.trans F3, A3.an, fun z => absurd z hv3, fun _ => nx _ _⟩
    · subst ha hb
      (repeat (first | with_reducible refine Two.bdL ?_ | with_reducible refine Two.bdR ?_ | (with_reducible refine Two.iL ?_ ?_; · ((try simp (disch := omega) only [w32i, Int.toNat_natCast]) <;> omega)) | (with_reducible refine Two.eL ?_ ?_; · ((try simp (disch := omega) only [w32i, Int.toNat_natCast]) <;> omega)) | (with_reducible refine Two.iR ?_ ?_; · ((try simp (disch := omega) only [w32i, Int.toNat_natCast]) <;> omega)) | (with_reducible refine Two.eR ?_ ?_; · ((try simp (disch := omega) only [w32i, Int.toNat_natCast]) <;> omega)) | unfold d_x4_mergePlace_88 | unfold d_x4_mergePlace_100 | unfold d_x4_mergePlace_110 | unfold d_x4_mergePlace_122 | unfold d_x8_merges_70 | unfold d_x8_merges_89))
      exact fin c2 r2 1 0 0 H2 M02 F02 (Or.inl ⟨rfl, rfl, rfl, (V1 rfl).mo M2.pl⟩)
  · rcases hb with hb | hb
    · subst ha hb
      (repeat (first | with_reducible refine Two.bdL ?_ | with_reducible refine Two.bdR ?_ | (with_reducible refine Two.iL ?_ ?_; · ((try simp (disch := omega) only [w32i, Int.toNat_natCast]) <;> omega)) | (with_reducible refine Two.eL ?_ ?_; · ((try simp (disch := omega) only [w32i, Int.toNat_natCast]) <;> omega)) | (with_reducible refine Two.iR ?_ ?_; · ((try simp (disch := omega) only [w32i, Int.toNat_natCast]) <;> omega)) | (with_reducible refine Two.eR ?_ ?_; · ((try simp (disch := omega) only [w32i, Int.toNat_natCast]) <;> omega)) | unfold d_x4_mergePlace_88 | unfold d_x4_mergePlace_100 | unfold d_x4_mergePlace_110 | unfold d_x4_mergePlace_122 | unfold d_x8_merges_70 | unfold d_x8_merges_89))
      exact fin c2 r2 0 1 1 H2 M02 F02 (Or.inr (Or.inl ⟨rfl, rfl, rfl, V2 rfl⟩))
    · subst ha hb
      (repeat (first | with_reducible refine Two.bdL ?_ | with_reducible refine Two.bdR ?_ | (with_reducible refine Two.iL ?_ ?_; · ((try simp (disch := omega) only [w32i, Int.toNat_natCast]) <;> omega)) | (with_reducible refine Two.eL ?_ ?_; · ((try simp (disch := omega) only [w32i, Int.toNat_natCast]) <;> omega)) | (with_reducible refine Two.iR ?_ ?_; · ((try simp (disch := omega) only [w32i, Int.toNat_natCast]) <;> omega)) | (with_reducible refine Two.eR ?_ ?_; · ((try simp (disch := omega) only [w32i, Int.toNat_natCast]) <;> omega)) | unfold d_x4_mergePlace_88))
      exact Two.ret rfl ⟨H2, M02.any, F02, A2, fun z => by omega, fun _ => nx _ _⟩
end
section
theorem L_ask {t N : Nat} {T : St} {n : Nat} {A Hd P Q : St → Int → Int → Option Rs} (h2 : T2 t) (hN : 100 ≤ N) (IH : AH t T n Hd Q) : AH t T ((n + 1 : Nat) : Int) (d_x4_askHead N A Hd t) (d_x8_headAsked N P Q) := by
  intro c r p x x' y y' z H hp hx hx' hy hy' htd hf
  subst hx hx' hy hy'
  obtain ⟨q, hq, hq1, hz0, hz1⟩ := htd
  have hvq : VP T q ∧ T 19 q ≠ 0 := by
    rcases res_ok H.W hp with ⟨q', a1, a2, a3⟩ | a | a
    · have : q' = q := by omega
      rw [← this]
      exact ⟨a2, a3⟩
    · omega
    · omega
  obtain ⟨i, rfl⟩ : ∃ i : Nat, y' = i := ⟨y'.toNat, by omega⟩
  have hb : 26 ≤ t ∧ t ≤ 38 := by unfold T2 at h2; omega
  have hR := H.R
  unfold TR at hR
  have hR1 := hR.1
  have hi64 : i < 64 := by
    have := H.P hq1
    unfold TP at this
    omega
  have hpl : c (t + 1) q ≤ 64 := by
    have := H.P hq1
    unfold TP at this
    omega
  have e64 : ((q : Int) * 64 + (i : Int)).toNat = 64 * q + i := by omega
  have e64' : (64 * (q : Int) + (i : Int)).toNat = 64 * q + i := by omega
  have hM := H.M hq1 hi64
  unfold TM at hM
  obtain ⟨m1, m2, m3, m4⟩ := hM
  have mr : -24 ≤ c (t + 7) (64 * q + i) ∧ c (t + 7) (64 * q + i) ≤ 2 := by omega
  unfold d_x4_askHead d_x8_headAsked
  refine Two.cL (e_behind H.W H.ct hN hp) ?_
  refine Two.cR (e_follow H.W H.rt hN hp) ?_
  rw [hq]
  have hg1 : 0 ≤ w32 (q : Int) ∧ w32 (q : Int) < ((192 : Nat) : Int) := (by ((try simp (disch := omega) only [w32i, Int.toNat_natCast]) <;> omega))
  have hg : 0 ≤ w32 ((q : Int) * 64 + (i : Int)) ∧ w32 ((q : Int) * 64 + (i : Int)) < ((12288 : Nat) : Int) := (by ((try simp (disch := omega) only [w32i, Int.toNat_natCast]) <;> omega))
  have hg' : 0 ≤ w32 (64 * (q : Int) + (i : Int)) ∧ w32 (64 * (q : Int) + (i : Int)) < ((12288 : Nat) : Int) := (by ((try simp (disch := omega) only [w32i, Int.toNat_natCast]) <;> omega))
  clear m2
  by_cases hm0 : c (t + 7) (64 * q + i) = 0
  · -- untold
    (repeat (first | with_reducible refine Two.bdL ?_ | with_reducible refine Two.bdR ?_ | (with_reducible refine Two.iL ?_ ?_; · ((try simp (disch := omega) only [w32i, Int.toNat_natCast, e64, e64', m1]) <;> omega)) | (with_reducible refine Two.eL ?_ ?_; · ((try simp (disch := omega) only [w32i, Int.toNat_natCast, e64, e64', m1]) <;> omega)) | (with_reducible refine Two.iR ?_ ?_; · ((try simp (disch := omega) only [w32i, Int.toNat_natCast, e64, e64', m1]) <;> omega)) | (with_reducible refine Two.eR ?_ ?_; · ((try simp (disch := omega) only [w32i, Int.toNat_natCast, e64, e64', m1]) <;> omega)) | unfold d_x8_headAsked_42))
    by_cases hrun : c 50 3 < c 50 2
    · refine Two.cL ((e_run H).trans (if_pos hrun)) ?_
      obtain ⟨H1, M1, F1⟩ := U_run h2 H hrun (x := c 50 3 + 1) (y := r 77 36 + 1) rfl (by omega)
      have hmet : (up c 50 3 (c 50 3 + 1)) (t + 10) q = 1 := by rw [up_ne (by omega)]; exact H.met hq1 (by omega)
      (repeat (first | with_reducible refine Two.bdL ?_ | with_reducible refine Two.bdR ?_ | (with_reducible refine Two.iL ?_ ?_; · ((try simp (disch := omega) only [w32i, Int.toNat_natCast, e64, e64', up_ne, up_nj, up_same]) <;> omega)) | (with_reducible refine Two.eL ?_ ?_; · ((try simp (disch := omega) only [w32i, Int.toNat_natCast, e64, e64', up_ne, up_nj, up_same]) <;> omega)) | (with_reducible refine Two.iR ?_ ?_; · ((try simp (disch := omega) only [w32i, Int.toNat_natCast, e64, e64', up_ne, up_nj, up_same]) <;> omega)) | (with_reducible refine Two.eR ?_ ?_; · ((try simp (disch := omega) only [w32i, Int.toNat_natCast, e64, e64', up_ne, up_nj, up_same]) <;> omega))))
      rw [w32i (x := (q : Int) * 64 + (i : Int)) (by omega) (by omega), e64, w32i (x := 64 * (q : Int) + (i : Int)) (by omega) (by omega), e64', show w8 2 = 2 from rfl]
      generalize hc1 : up c 50 3 (c 50 3 + 1) = c1 at *
      generalize hr1 : up r 77 36 (r 77 36 + 1) = r1 at *
      have c1e : ∀ a k, a ≠ 50 → c1 a k = c a k := fun a k h => by rw [← hc1, up_ne h]
      have r1e : ∀ a k, a ≠ 77 → r1 a k = r a k := fun a k h => by rw [← hr1, up_ne h]
      have H2 : TI t T (up c1 (t + 7) (64 * q + i) 2) (up r1 91 (64 * q + i) 2) := by
        refine U_mark h2 H1 hq1 hi64 hmet (fun a k z1 z2 z3 => by rw [up_app, if_neg z1]) (fun a k z1 z2 => by rw [up_app, if_neg z1]) (by rw [up_same, up_same]) (by rw [up_same]; omega) (fun _ => by rw [c1e _ _ (by omega)]; omega) (fun z => by rw [up_same] at z; omega) ?_
        rw [up_same, up_ne (by omega), c1e (t + 7) _ (by omega), hm0]
        rfl
      have hf2 : (up c1 (t + 7) (64 * q + i) 2) 50 2 < (n : Int) + (up c1 (t + 7) (64 * q + i) 2) 50 3 := by
        rw [up_ne (by omega), up_ne (by omega), ← hc1, up_nj (by omega), up_same]
        omega
      have m2e : (up c1 (t + 7) (64 * q + i) 2) (t + 7) (64 * q + i) = 2 := up_same
      refine Two.call (L_head h2 hN IH H2 hvq.1 hvq.2 (by rw [up_ne (by omega), c1e _ _ (by omega)]; exact hz1) hf2) (fun c3 r3 v3 q3 => ?_)
      obtain ⟨H3, M3, F3, A3, V3⟩ := q3
      have g3 := A3.rng
      have hR3 : c3 50 1 = (t : Int) := H3.R.1
      have k3 : c3 (t + 7) (64 * q + i) = 2 := (M3.2.2.2.2 q i hq1 hi64).1.mp m2e
      have p3 : (i : Int) < c3 (t + 1) q := by
        have := M3.pl q hq1
        rw [up_ne (by omega), c1e _ _ (by omega)] at this
        omega
      have met3 : c3 (t + 10) q = 1 := H3.met hq1 (by omega)
      have F03 : Fm r r3 := F1.trans (Fm.trans ⟨fun a k _ => up_ne (by omega), fun k _ _ => up_ne (by omega)⟩ F3)
      by_cases hv6 : v3 = -6
      · (repeat (first | with_reducible refine Two.bdL ?_ | with_reducible refine Two.bdR ?_ | (with_reducible refine Two.iL ?_ ?_; · ((try simp (disch := omega) only [w32i, Int.toNat_natCast, e64, e64', up_ne, up_nj, up_same]) <;> omega)) | (with_reducible refine Two.eL ?_ ?_; · ((try simp (disch := omega) only [w32i, Int.toNat_natCast, e64, e64', up_ne, up_nj, up_same]) <;> omega)) | (with_reducible refine Two.iR ?_ ?_; · ((try simp (disch := omega) only [w32i, Int.toNat_natCast, e64, e64', up_ne, up_nj, up_same]) <;> omega)) | (with_reducible refine Two.eR ?_ ?_; · ((try simp (disch := omega) only [w32i, Int.toNat_natCast, e64, e64', up_ne, up_nj, up_same]) <;> omega)) | unfold d_x8_headAsked_135))
        rw [w32i (x := 64 * (q : Int) + (i : Int)) (by omega) (by omega), e64', show w8 0 = 0 from rfl]
        refine Two.ret (by omega) ⟨U_mark h2 H3 hq1 hi64 met3 (fun a k z1 z2 z3 => by rw [up_app, if_neg z1]) (fun a k z1 z2 => by rw [up_app, if_neg z2, up_app, if_neg z1]) (by rw [up_ne (by omega), up_same, up_same]) (by rw [up_same]; omega) (fun z => absurd up_same z) (fun z => by rw [up_same] at z; omega) ?_, M1.trans (Mo.head h2 hq1 hi64 (by rw [c1e _ _ (by omega)]; omega) (by rw [up_same]; omega) (fun a k h => by rw [up_app, if_neg h]) M3 (fun a k z1 z2 z3 z4 => by rw [up_app, if_neg z1])), F03.trans ⟨fun a k _ => by rw [up_ne (by omega), up_ne (by omega)], fun k _ _ => by rw [up_ne (by omega), up_ne (by omega)]⟩, Or.inr (Or.inl rfl), fun z => by omega⟩
        rw [up_same, up_ne (by omega), k3]
        rfl
      · have hw : w8 (w8 v3) = v3 := by rw [w8i (x := v3) (by omega) (by omega), w8i (x := v3) (by omega) (by omega)]
        have A3' := A3
        unfold AnH at A3'
        (repeat (first | with_reducible refine Two.bdL ?_ | with_reducible refine Two.bdR ?_ | (with_reducible refine Two.iL ?_ ?_; · ((try simp (disch := omega) only [w32i, Int.toNat_natCast, e64, e64', up_ne, up_nj, up_same]) <;> omega)) | (with_reducible refine Two.eL ?_ ?_; · ((try simp (disch := omega) only [w32i, Int.toNat_natCast, e64, e64', up_ne, up_nj, up_same]) <;> omega)) | (with_reducible refine Two.iR ?_ ?_; · ((try simp (disch := omega) only [w32i, Int.toNat_natCast, e64, e64', up_ne, up_nj, up_same]) <;> omega)) | (with_reducible refine Two.eR ?_ ?_; · ((try simp (disch := omega) only [w32i, Int.toNat_natCast, e64, e64', up_ne, up_nj, up_same]) <;> omega)) | unfold d_x8_headAsked_135 | unfold d_x4_askHead_160))
        rw [w32i (x := (q : Int) * 64 + (i : Int)) (by omega) (by omega), e64, w32i (x := 64 * (q : Int) + (i : Int)) (by omega) (by omega), e64', w32i (x := (q : Int)) (by omega) (by omega), Int.toNat_natCast, hw, show w8 0 = 0 from rfl]
        obtain ⟨c4, hc4⟩ : ∃ c4, c4 = up (up (up (up c3 (t + 7) (64 * q + i) 0) (t + 7) (64 * q + i) v3) (t + 8) (64 * q + i) (up (up c3 (t + 7) (64 * q + i) 0) (t + 7) (64 * q + i) v3 50 4)) (t + 2) q (up (up (up c3 (t + 7) (64 * q + i) 0) (t + 7) (64 * q + i) v3) (t + 8) (64 * q + i) (up (up c3 (t + 7) (64 * q + i) 0) (t + 7) (64 * q + i) v3 50 4) (t + 2) q + 1) := ⟨_, rfl⟩
        rw [← hc4]
        have x7 : c4 (t + 7) (64 * q + i) = v3 := by
          rw [hc4]
          simp (disch := omega) only [up_ne, up_same]
        have x8 : c4 (t + 8) (64 * q + i) = c3 50 4 := by
          rw [hc4]
          simp (disch := omega) only [up_ne, up_same]
        have x2 : c4 (t + 2) q = c3 (t + 2) q + 1 := by
          rw [hc4]
          simp (disch := omega) only [up_ne, up_same]
        have xo : ∀ a k, ¬ (a = t + 7 ∧ k = 64 * q + i) → ¬ (a = t + 8 ∧ k = 64 * q + i) → ¬ (a = t + 2 ∧ k = q) → c4 a k = c3 a k := by
          intro a k z1 z2 z3
          rw [hc4, up_app, if_neg z3, up_app, if_neg z2, up_app, if_neg z1, up_app, if_neg z1]
        obtain ⟨r4, hr4⟩ : ∃ r4, r4 = up (up r3 91 (64 * q + i) v3) 92 (64 * q + i) (up r3 91 (64 * q + i) v3 77 38) := ⟨_, rfl⟩
        rw [← hr4]
        have y1 : r4 91 (64 * q + i) = v3 := by rw [hr4, up_ne (by omega), up_same]
        have y2 : r4 92 (64 * q + i) = r3 77 38 := by rw [hr4, up_same, up_ne (by omega)]
        have yo : ∀ a k, ¬ (a = 91 ∧ k = 64 * q + i) → ¬ (a = 92 ∧ k = 64 * q + i) → r4 a k = r3 a k := by
          intro a k z1 z2
          rw [hr4, up_app, if_neg z2, up_app, if_neg z1]
        have H4 : TI t T c4 r4 := by
          refine U_mark h2 H3 hq1 hi64 met3 xo yo (by rw [y1, x7]) (by rw [x7]; omega) (fun _ => p3) (fun z => by rw [x7] at z; rw [y2, x8]; exact (V3 z).symm) ?_
          rw [x7, x2, k3, if_pos (Or.inr rfl), if_neg (by omega)]
          omega
        have u := U_valL h2 H4 (c4 (t + 8) (64 * q + i))
        have x7' : up c4 50 4 (c4 (t + 8) (64 * q + i)) (t + 7) (64 * q + i) = v3 := by rw [up_ne (by omega)]; exact x7
        refine Two.ret (by rw [x7']) ⟨u.1, M1.trans (Mo.head h2 hq1 hi64 (by rw [c1e _ _ (by omega)]; omega) (by rw [x7']; omega) (fun a k h => by rw [up_app, if_neg h]) M3 (fun a k z1 z2 z3 z4 => by rw [up_app, if_neg z4]; exact xo a k z1 z2 z3)), F03.trans ⟨fun a k _ => yo a k (by omega) (by omega), fun k _ _ => yo 77 k (by omega) (by omega)⟩, by rw [x7']; exact A3, fun z => ?_⟩
        rw [x7'] at z
        rw [up_same, x8, yo 77 38 (by omega) (by omega)]
        exact V3 z
    · refine Two.cL ((e_run H).trans (if_neg hrun)) ?_
      (repeat (first | with_reducible refine Two.bdL ?_ | with_reducible refine Two.bdR ?_ | (with_reducible refine Two.iL ?_ ?_; · ((try simp (disch := omega) only [w32i, Int.toNat_natCast]) <;> omega)) | (with_reducible refine Two.eL ?_ ?_; · ((try simp (disch := omega) only [w32i, Int.toNat_natCast]) <;> omega)) | (with_reducible refine Two.iR ?_ ?_; · ((try simp (disch := omega) only [w32i, Int.toNat_natCast]) <;> omega)) | (with_reducible refine Two.eR ?_ ?_; · ((try simp (disch := omega) only [w32i, Int.toNat_natCast]) <;> omega))))
      exact Two.ret rfl (QH.no H (by unfold AnH; omega) (by decide))
  · by_cases hm2 : c (t + 7) (64 * q + i) = 2
    · (repeat (first | with_reducible refine Two.bdL ?_ | with_reducible refine Two.bdR ?_ | (with_reducible refine Two.iL ?_ ?_; · ((try simp (disch := omega) only [w32i, Int.toNat_natCast, e64, e64', m1]) <;> omega)) | (with_reducible refine Two.eL ?_ ?_; · ((try simp (disch := omega) only [w32i, Int.toNat_natCast, e64, e64', m1]) <;> omega)) | (with_reducible refine Two.iR ?_ ?_; · ((try simp (disch := omega) only [w32i, Int.toNat_natCast, e64, e64', m1]) <;> omega)) | (with_reducible refine Two.eR ?_ ?_; · ((try simp (disch := omega) only [w32i, Int.toNat_natCast, e64, e64', m1]) <;> omega)) | unfold d_x8_headAsked_42))
      exact Two.ret rfl (QH.no H (by unfold AnH; omega) (by decide))
    · have hM := H.M hq1 hi64
      unfold TM at hM
      have m2 := hM.2.1
      by_cases hm1 : c (t + 7) (64 * q + i) = 1
      · clear m2 hM
        (repeat (first | with_reducible refine Two.bdL ?_ | with_reducible refine Two.bdR ?_ | (with_reducible refine Two.iL ?_ ?_; · ((try simp (disch := omega) only [w32i, Int.toNat_natCast, e64, e64', m1, up_ne, up_nj, up_same]) <;> omega)) | (with_reducible refine Two.eL ?_ ?_; · ((try simp (disch := omega) only [w32i, Int.toNat_natCast, e64, e64', m1, up_ne, up_nj, up_same]) <;> omega)) | (with_reducible refine Two.iR ?_ ?_; · ((try simp (disch := omega) only [w32i, Int.toNat_natCast, e64, e64', m1, up_ne, up_nj, up_same]) <;> omega)) | (with_reducible refine Two.eR ?_ ?_; · ((try simp (disch := omega) only [w32i, Int.toNat_natCast, e64, e64', m1, up_ne, up_nj, up_same]) <;> omega)) | unfold d_x8_headAsked_42 | unfold d_x4_askHead_160))
        rw [w32i (x := (q : Int) * 64 + (i : Int)) (by omega) (by omega), e64, w32i (x := 64 * (q : Int) + (i : Int)) (by omega) (by omega), e64']
        refine Two.ret (by rw [up_ne (by omega), up_ne (by omega)]; exact m1) ?_
        rw [up_ne (by omega), hm1]
        exact QH.val h2 H (m4 hm1).symm
      · clear m2 hM
        (repeat (first | with_reducible refine Two.bdL ?_ | with_reducible refine Two.bdR ?_ | (with_reducible refine Two.iL ?_ ?_; · ((try simp (disch := omega) only [w32i, Int.toNat_natCast, e64, e64', m1, up_ne, up_nj, up_same]) <;> omega)) | (with_reducible refine Two.eL ?_ ?_; · ((try simp (disch := omega) only [w32i, Int.toNat_natCast, e64, e64', m1, up_ne, up_nj, up_same]) <;> omega)) | (with_reducible refine Two.iR ?_ ?_; · ((try simp (disch := omega) only [w32i, Int.toNat_natCast, e64, e64', m1, up_ne, up_nj, up_same]) <;> omega)) | (with_reducible refine Two.eR ?_ ?_; · ((try simp (disch := omega) only [w32i, Int.toNat_natCast, e64, e64', m1, up_ne, up_nj, up_same]) <;> omega)) | unfold d_x8_headAsked_42 | unfold d_x4_askHead_160))
        rw [w32i (x := (q : Int) * 64 + (i : Int)) (by omega) (by omega), e64, w32i (x := 64 * (q : Int) + (i : Int)) (by omega) (by omega), e64']
        have u := U_valL h2 H (c (t + 8) (64 * q + i))
        have hM := H.M hq1 hi64
        unfold TM at hM
        refine Two.ret (by rw [up_ne (by omega)]; exact m1) ?_
        rw [up_ne (by omega)]
        exact ⟨u.1, u.2, Fm.refl, by unfold AnH; omega, fun z => absurd z hm1⟩
/-- a part that is over -/
theorem L_over {t N : Nat} {T c r : St} {A Hd P Q : St → Int → Int → Option Rs} (H : TI t T c r) {q m : Nat} (hq : q < 192) (hg : c (t + 3) q ≠ 1) {y n : Int} (hy : 0 ≤ y ∧ y < 64) (hn : 0 ≤ n ∧ n ≤ 200) (K : St → St → Int → Prop) (hK : ∀ v, An v → (v = 1 → y < c (t + 1) q) → K c r v) : Two (d_x4_askPlace_36L N A Hd t (m + 1) c y (q : Int) n) (d_x8_place_21L N P Q (m + 1) r y (q : Int)) K := by
  have hR1 : c 50 1 = (t : Int) := H.R.1
  have hP := H.P hq
  unfold TP at hP
  obtain ⟨a1, a2, a3, a4, a5, a6⟩ := hP
  have hg3 : -24 ≤ c (t + 3) q ∧ c (t + 3) q ≤ 1 := by omega
  have hr : r 87 q ≠ 0 := by omega
  have hr7 : -24 ≤ r 87 q ∧ r 87 q ≤ 1 := by omega
  have a4' := a4
  clear a4 a5 a6
  show Two (d_x4_askPlace_36 N A Hd t (d_x4_askPlace_36L N A Hd t m) c y q n) (d_x8_place_21 N P Q (d_x8_place_21L N P Q m) r y q) _
  have fin : Two (d_x4_askPlace_212 N A Hd t c y q) (d_x8_place_163 N P Q r y q) K := by
    unfold d_x4_askPlace_212 d_x8_place_163
    by_cases hl : y < c (t + 1) q
    · clear a4'
      (repeat (first | with_reducible refine Two.bdL ?_ | with_reducible refine Two.bdR ?_ | (with_reducible refine Two.iL ?_ ?_; · ((try simp (disch := omega) only [w32i, Int.toNat_natCast]) <;> omega)) | (with_reducible refine Two.eL ?_ ?_; · ((try simp (disch := omega) only [w32i, Int.toNat_natCast]) <;> omega)) | (with_reducible refine Two.iR ?_ ?_; · ((try simp (disch := omega) only [w32i, Int.toNat_natCast]) <;> omega)) | (with_reducible refine Two.eR ?_ ?_; · ((try simp (disch := omega) only [w32i, Int.toNat_natCast]) <;> omega))))
      exact Two.ret rfl (hK 1 (Or.inl rfl) (fun _ => hl))
    · by_cases h1 : r 87 q = 1
      · have e : c (t + 3) q = 0 := by omega
        clear a4'
        (repeat (first | with_reducible refine Two.bdL ?_ | with_reducible refine Two.bdR ?_ | (with_reducible refine Two.iL ?_ ?_; · ((try simp (disch := omega) only [w32i, Int.toNat_natCast]) <;> omega)) | (with_reducible refine Two.eL ?_ ?_; · ((try simp (disch := omega) only [w32i, Int.toNat_natCast]) <;> omega)) | (with_reducible refine Two.iR ?_ ?_; · ((try simp (disch := omega) only [w32i, Int.toNat_natCast]) <;> omega)) | (with_reducible refine Two.eR ?_ ?_; · ((try simp (disch := omega) only [w32i, Int.toNat_natCast]) <;> omega))))
        rw [w32i (x := (q : Int)) (by omega) (by omega), Int.toNat_natCast, e]
        exact Two.ret rfl (hK 0 (by unfold An; omega) (fun z => by omega))
      · have e : r 87 q = c (t + 3) q ∧ c (t + 3) q ≤ -21 := by omega
        clear a4'
        (repeat (first | with_reducible refine Two.bdL ?_ | with_reducible refine Two.bdR ?_ | (with_reducible refine Two.iL ?_ ?_; · ((try simp (disch := omega) only [w32i, Int.toNat_natCast]) <;> omega)) | (with_reducible refine Two.eL ?_ ?_; · ((try simp (disch := omega) only [w32i, Int.toNat_natCast]) <;> omega)) | (with_reducible refine Two.iR ?_ ?_; · ((try simp (disch := omega) only [w32i, Int.toNat_natCast]) <;> omega)) | (with_reducible refine Two.eR ?_ ?_; · ((try simp (disch := omega) only [w32i, Int.toNat_natCast]) <;> omega))))
        rw [w32i (x := (q : Int)) (by omega) (by omega), Int.toNat_natCast, e.1]
        exact Two.ret rfl (hK _ (by unfold An; omega) (fun z => by omega))
  clear a4'
  unfold d_x4_askPlace_36 d_x8_place_21
  by_cases hl : y < n
  · (repeat (first | with_reducible refine Two.bdL ?_ | with_reducible refine Two.bdR ?_ | (with_reducible refine Two.iL ?_ ?_; · ((try simp (disch := omega) only [w32i, Int.toNat_natCast]) <;> omega)) | (with_reducible refine Two.eL ?_ ?_; · ((try simp (disch := omega) only [w32i, Int.toNat_natCast]) <;> omega)) | (with_reducible refine Two.iR ?_ ?_; · ((try simp (disch := omega) only [w32i, Int.toNat_natCast]) <;> omega)) | (with_reducible refine Two.eR ?_ ?_; · ((try simp (disch := omega) only [w32i, Int.toNat_natCast]) <;> omega))))
    exact fin
  · (repeat (first | with_reducible refine Two.bdL ?_ | with_reducible refine Two.bdR ?_ | (with_reducible refine Two.iL ?_ ?_; · ((try simp (disch := omega) only [w32i, Int.toNat_natCast]) <;> omega)) | (with_reducible refine Two.eL ?_ ?_; · ((try simp (disch := omega) only [w32i, Int.toNat_natCast]) <;> omega)) | (with_reducible refine Two.iR ?_ ?_; · ((try simp (disch := omega) only [w32i, Int.toNat_natCast]) <;> omega)) | (with_reducible refine Two.eR ?_ ?_; · ((try simp (disch := omega) only [w32i, Int.toNat_natCast]) <;> omega))))
    exact fin
end
section
theorem e_seeks {T c : St} {N q : Nat} (hc : ct c T) (W : WT T) (hq : VP T q) : d_x4_seeks N c (q : Int) = some (c, if T 19 q = 4 ∨ T 19 q = 11 then 1 else 0) := by
  have h1 := hq.1
  have w := (W.2 _ hq).1
  unfold d_x4_seeks d_x4_seeks_27
  rw [w32i (x := (q : Int)) (by omega) (by omega), Int.toNat_natCast, if_pos (by omega), hc 19 q (by omega) (by omega), w32i (x := T 19 q) (by omega) (by omega)]
  by_cases h4 : T 19 q = 4
  · rw [if_pos h4, if_pos (Or.inl h4)]
  · rw [if_neg h4, if_pos (by omega)]
    by_cases h11 : T 19 q = 11
    · rw [if_pos h11, if_pos (Or.inr h11)]
    · rw [if_neg h11, if_neg (by omega)]
theorem L_placeL {t N : Nat} {T : St} {n' : Nat} {A Hd P Q : St → Int → Int → Option Rs} (h2 : T2 t) (hN : 100 ≤ N) (IHp : AP t T n' A P) (IH : AH t T n' Hd Q) {q : Nat} (hq : VP T q) (hk0 : T 19 q ≠ 0) {y : Int} (hy : 0 ≤ y ∧ y < 64) (c0 r0 : St) :
    ∀ (k m : Nat) (c r : St) (n : Int), 64 - c (t + 1) q ≤ k → k + 2 ≤ m → TI t T c r → (c (t + 3) q = 1 → n = c (t + 1) q) → 0 ≤ n ∧ n ≤ 200 → Mo t 192 c0 c → Fm r0 r → c 50 2 < ((n' + 1 : Nat) : Int) + c 50 3 →
      Two (d_x4_askPlace_36L N A Hd t m c y (q : Int) n) (d_x8_place_21L N P Q m r y (q : Int)) (fun c' r' v => TI t T c' r' ∧ Mo t 192 c0 c' ∧ Fm r0 r' ∧ An v ∧ (v = 1 → y < c' (t + 1) q)) := by
  intro k
  have hq1 := hq.1
  have hb : 26 ≤ t ∧ t ≤ 38 := by unfold T2 at h2; omega
  induction k with
  | zero =>
    intro m c r n hk hm H hn hn2 M F hf
    obtain ⟨m, rfl⟩ : ∃ m', m = m' + 1 := ⟨m - 1, by omega⟩
    by_cases hg : c (t + 3) q = 1
    · have hP := H.P hq1
      unfold TP at hP
      have hR1 : c 50 1 = (t : Int) := H.R.1
      have e1 := hn hg
      have e2 : r 87 q = 0 := by omega
      have e3 := hP.1
      have e4 := hP.2.2.1
      clear hP
      show Two (d_x4_askPlace_36 N A Hd t (d_x4_askPlace_36L N A Hd t m) c y q n) (d_x8_place_21 N P Q (d_x8_place_21L N P Q m) r y q) _
      unfold d_x4_askPlace_36 d_x8_place_21
      (repeat (first | with_reducible refine Two.bdL ?_ | with_reducible refine Two.bdR ?_ | (with_reducible refine Two.iL ?_ ?_; · ((try simp (disch := omega) only [w32i, Int.toNat_natCast]) <;> omega)) | (with_reducible refine Two.eL ?_ ?_; · ((try simp (disch := omega) only [w32i, Int.toNat_natCast]) <;> omega)) | (with_reducible refine Two.iR ?_ ?_; · ((try simp (disch := omega) only [w32i, Int.toNat_natCast]) <;> omega)) | (with_reducible refine Two.eR ?_ ?_; · ((try simp (disch := omega) only [w32i, Int.toNat_natCast]) <;> omega)) | unfold d_x4_askPlace_212 | unfold d_x8_place_163))
      exact Two.ret rfl ⟨H, M, F, Or.inl rfl, fun _ => by omega⟩
    · exact L_over H hq1 hg hy hn2 _ (fun v a b => ⟨H, M, F, a, b⟩)
  | succ k ih =>
    intro m c r n hk hm H hn hn2 M F hf
    obtain ⟨m, rfl⟩ : ∃ m', m = m' + 1 := ⟨m - 1, by omega⟩
    by_cases hg : c (t + 3) q = 1
    · have hP := H.P hq1
      unfold TP at hP
      have hR := H.R
      unfold TR at hR
      have hR1 := hR.1
      have e1 := hn hg
      have e2 : r 87 q = 0 := by omega
      have e3 := hP.1
      have e4 := hP.2.2.1
      have e5 := hP.2.2.2.2.1
      have e6 := hP.2.2.2.2.2
      clear hP
      show Two (d_x4_askPlace_36 N A Hd t (d_x4_askPlace_36L N A Hd t m) c y q n) (d_x8_place_21 N P Q (d_x8_place_21L N P Q m) r y q) _
      unfold d_x4_askPlace_36 d_x8_place_21
      by_cases hl : y < n
      · clear e6
        (repeat (first | with_reducible refine Two.bdL ?_ | with_reducible refine Two.bdR ?_ | (with_reducible refine Two.iL ?_ ?_; · ((try simp (disch := omega) only [w32i, Int.toNat_natCast]) <;> omega)) | (with_reducible refine Two.eL ?_ ?_; · ((try simp (disch := omega) only [w32i, Int.toNat_natCast]) <;> omega)) | (with_reducible refine Two.iR ?_ ?_; · ((try simp (disch := omega) only [w32i, Int.toNat_natCast]) <;> omega)) | (with_reducible refine Two.eR ?_ ?_; · ((try simp (disch := omega) only [w32i, Int.toNat_natCast]) <;> omega)) | unfold d_x4_askPlace_212 | unfold d_x8_place_163))
        exact Two.ret rfl ⟨H, M, F, Or.inl rfl, fun _ => by omega⟩
      · by_cases htl : c (t + 4) q = 0
        · clear e6
          by_cases hrun : c 50 3 < c 50 2
          · (repeat (first | with_reducible refine Two.bdL ?_ | with_reducible refine Two.bdR ?_ | (with_reducible refine Two.iL ?_ ?_; · ((try simp (disch := omega) only [w32i, Int.toNat_natCast]) <;> omega)) | (with_reducible refine Two.eL ?_ ?_; · ((try simp (disch := omega) only [w32i, Int.toNat_natCast]) <;> omega)) | (with_reducible refine Two.iR ?_ ?_; · ((try simp (disch := omega) only [w32i, Int.toNat_natCast]) <;> omega)) | (with_reducible refine Two.eR ?_ ?_; · ((try simp (disch := omega) only [w32i, Int.toNat_natCast]) <;> omega))))
            refine Two.cL ((e_run H).trans (if_pos hrun)) ?_
            obtain ⟨H1, M1, F1⟩ := U_run h2 H hrun (x := c 50 3 + 1) (y := r 77 36 + 1) rfl (by omega)
            have c1e : ∀ a k, a ≠ 50 → (up c 50 3 (c 50 3 + 1)) a k = c a k := fun a k h => up_ne h
            have c12 : (up c 50 3 (c 50 3 + 1)) 50 2 = c 50 2 := up_nj (by omega)
            have c13 : (up c 50 3 (c 50 3 + 1)) 50 3 = c 50 3 + 1 := up_same
            have r16 : ∀ a k, a ≠ 77 → (up r 77 36 (r 77 36 + 1)) a k = r a k := fun a k h => up_ne h
            generalize up c 50 3 (c 50 3 + 1) = c1 at *
            generalize up r 77 36 (r 77 36 + 1) = r1 at *
            have hR1' : c1 50 1 = (t : Int) := H1.R.1
            refine Two.eL (by decide) (Two.iL hR1' ?_)
            obtain ⟨c2, m1, H2, M2, m4, m5⟩ := U_meet h2 H1 N hq
            refine Two.vL m1 ?_
            have hR2 : c2 50 1 = (t : Int) := H2.R.1
            refine Two.iL hR2 (Two.iL (by ((try simp (disch := omega) only [w32i, Int.toNat_natCast]) <;> omega)) (Two.bdL ?_))
            rw [w32i (x := (q : Int)) (by omega) (by omega), Int.toNat_natCast, and11, and01]
            have H3 := U_tell h2 H2 hq1 m4
            have c3e : ∀ a k, ¬ (a = t + 4 ∧ k = q) → (up c2 (t + 4) q 1) a k = c2 a k := fun a k h => by rw [up_app, if_neg h]
            have c3t : (up c2 (t + 4) q 1) (t + 4) q = 1 := up_same
            have r3e : ∀ a k, ¬ (a = 88 ∧ k = q) → (up r1 88 q 1) a k = r1 a k := fun a k h => by rw [up_app, if_neg h]
            generalize up c2 (t + 4) q 1 = c3 at *
            generalize up r1 88 q 1 = r3 at *
            obtain ⟨i, hi⟩ : ∃ i : Nat, c (t + 1) q = i := ⟨n.toNat, by omega⟩
            have hi64 : i < 64 := by omega
            have pl3 : c3 (t + 1) q = i := by rw [c3e _ _ (by omega), m5 _ _ (by omega) (by omega) (by omega), c1e _ _ (by omega)]; exact hi
            have g3 : c3 (t + 3) q = 1 := by rw [c3e _ _ (by omega), m5 _ _ (by omega) (by omega) (by omega), c1e _ _ (by omega)]; exact hg
            have r386 : r3 86 q = i := by rw [r3e _ _ (by omega), r16 _ _ (by omega), e3]; exact hi
            have nx3 : NX t T c3 q i := by
              have a := (H.N hq).1 htl
              rw [hi] at a
              unfold NX at *
              rw [c3e _ _ (by omega), m5 _ _ (by omega) (by omega) (by omega), c1e _ _ (by omega)]
              refine fun z => ⟨(a z).1, fun j hj => ?_⟩
              rw [c3e _ _ (by omega), m5 _ _ (by omega) (by omega) (by omega), c1e _ _ (by omega)]
              exact (a z).2 j hj
            have f3 : c3 50 2 < (n' : Int) + c3 50 3 := by
              have a := (M2.2.1 2 (by omega) (by omega))
              have b := M2.2.2.1
              rw [c3e _ _ (by omega), c3e _ _ (by omega), a, c12]
              omega
            have F3 : Fm r r3 := F1.trans ⟨fun a k _ => r3e a k (by omega), fun k _ _ => r3e 77 k (by omega)⟩
            have tl2 : c2 (t + 4) q = 0 := by rw [m5 _ _ (by omega) (by omega) (by omega), c1e _ _ (by omega)]; exact htl
            have n_i : n = i := by omega
            subst n_i
            rw [r386]
            have cont : ∀ X, Two X (d_x8_tellsPlace N P Q r3 (q : Int) (i : Int)) (QT t T c3 r3 q i) → Two (bI X (fun s14 v15 => d_x4_askPlace_153 N A Hd t (d_x4_askPlace_36L N A Hd t m) s14 y (q : Int) (i : Int) v15)) (bI (d_x8_tellsPlace N P Q r3 (q : Int) (i : Int)) fun s5 v6 => if 0 ≤ (q : Int) ∧ (q : Int) < ((192 : Nat) : Int) then bd (up s5 88 q 0) fun s7 => (if (w32 v6) = (-6) then some (s7, (-6)) else if 0 ≤ (q : Int) ∧ (q : Int) < ((192 : Nat) : Int) then (if (w32 v6) = 1 then d_x8_place_131 N P Q (d_x8_place_21L N P Q m) s7 y (q : Int) v6 1 (s7 86 q) (q : Int) else d_x8_place_131 N P Q (d_x8_place_21L N P Q m) s7 y (q : Int) v6 0 (s7 86 q) (q : Int)) else none) else none) (fun c' r' v => TI t T c' r' ∧ Mo t 192 c0 c' ∧ Fm r0 r' ∧ An v ∧ (v = 1 → y < c' (t + 1) q)) := by
              intro X hX
              refine Two.call hX (fun c4 r4 v4 q4 => ?_)
              obtain ⟨H4, M4, F4, A4, V4, V4'⟩ := q4
              have g4 := A4.rng
              have hR4 : c4 50 1 = (t : Int) := H4.R.1
              have mm := (M4.2.2.2.1 q hq1)
              have tl4 : c4 (t + 4) q = 1 := by rw [mm.2.1]; exact c3t
              have pl4 : c4 (t + 1) q = i := by rw [(mm.2.2.2 c3t).1]; exact pl3
              have go4 : c4 (t + 3) q = 1 := by rw [(mm.2.2.2 c3t).2.1]; exact g3
              have met4 : c4 (t + 10) q = 1 := H4.met hq1 (Or.inl tl4)
              have r486 : r4 86 q = i := by
                have := (H4.P hq1).1
                rw [this]; exact pl4
              have M02 : Mo t 192 c0 c2 := M.trans (M1.trans M2)
              have F04 : Fm r0 r4 := F.trans (F3.trans F4)
              have f4 : c4 50 2 < ((n' + 1 : Nat) : Int) + c4 50 3 := by
                have := M4.f f3
                omega
              unfold d_x4_askPlace_153
              have w88 : ∀ a k, a ≠ 88 → up r4 88 q 0 a k = r4 a k := fun a k h => up_ne h
              refine Two.iL hR4 (Two.iL (by ((try simp (disch := omega) only [w32i, Int.toNat_natCast]) <;> omega)) (Two.bdL ?_))
              refine Two.iR (by omega) (Two.bdR ?_)
              rw [w32i (x := (q : Int)) (by omega) (by omega), Int.toNat_natCast, and01]
              by_cases h6 : v4 = -6
              · refine Two.iL (by ((try simp (disch := omega) only [w32i, Int.toNat_natCast]) <;> omega)) (Two.iR (by ((try simp (disch := omega) only [w32i, Int.toNat_natCast]) <;> omega)) ?_)
                have H5 := U_dear h2 H4 hq1 met4 (by rw [pl4]; exact V4' (by omega))
                refine Two.ret rfl ⟨H5, M02.trans (Mo.place h2 hq1 tl2 c3e M4 (fun a k z1 z2 z3 => by rw [up_app, if_neg z1]) up_same (by rw [up_ne (by omega)]; exact Int.le_refl _)), F04.trans ⟨fun a k _ => up_ne (by omega), fun k _ _ => up_ne (by omega)⟩, by unfold An; omega, fun z => by omega⟩
              · by_cases h1 : v4 = 1
                · refine Two.eL (by ((try simp (disch := omega) only [w32i, Int.toNat_natCast]) <;> omega)) (Two.eR (by ((try simp (disch := omega) only [w32i, Int.toNat_natCast]) <;> omega)) ?_)
                  refine Two.iL (by ((try simp (disch := omega) only [w32i, Int.toNat_natCast]) <;> omega)) (Two.iR (by omega) (Two.iR (by ((try simp (disch := omega) only [w32i, Int.toNat_natCast]) <;> omega)) ?_))
                  have hR5 : up c4 (t + 4) q 0 50 1 = (t : Int) := by rw [up_ne (by omega)]; exact hR4
                  refine Two.iL hR5 (Two.iL (by omega) (Two.iL (by omega) (Two.bdL ?_)))
                  unfold d_x8_place_131
                  refine Two.iR (by ((try simp (disch := omega) only [w32i, Int.toNat_natCast]) <;> omega)) (Two.bdR (Two.iR (by ((try simp (disch := omega) only [w32i, Int.toNat_natCast]) <;> omega)) ?_))
                  unfold d_x8_place_159 d_x4_askPlace_206
                  refine Two.iR (by ((try simp (disch := omega) only [w32i, Int.toNat_natCast]) <;> omega)) (Two.bdR (Two.bdL ?_))
                  rw [w32i (x := (q : Int)) (by omega) (by omega), Int.toNat_natCast, w88 86 q (by omega), r486, up_ne (a := t + 4) (b := t + 1) (by omega), pl4]
                  obtain ⟨b1, b2, b3⟩ := V4 h1
                  have H5 := U_more h2 H4 hq met4 pl4 hi64 go4 b3 b1 b2 (x := (i : Int) + 1) (y := (i : Int) + 1) rfl rfl
                  have M5 : Mo t 192 c2 (up (up c4 (t + 4) q 0) (t + 1) q ((i : Int) + 1)) := Mo.place h2 hq1 tl2 c3e M4 (fun a k z1 z2 z3 => by rw [up_app, if_neg z2, up_app, if_neg z1]) (by rw [up_ne (by omega), up_same]) (by rw [up_same]; omega)
                  refine ih m _ _ ((i : Int) + 1) ?_ (by omega) H5 (fun _ => by rw [up_same]) (by omega) (M02.trans M5) (F04.trans ⟨fun a k _ => by rw [up_ne (by omega), up_ne (by omega), up_ne (by omega)], fun k _ _ => by rw [up_ne (by omega), up_ne (by omega), up_ne (by omega)]⟩) (by rw [up_ne (by omega), up_ne (by omega), up_ne (by omega), up_ne (by omega)]; exact f4)
                  rw [up_same]
                  omega
                · refine Two.eL (by ((try simp (disch := omega) only [w32i, Int.toNat_natCast]) <;> omega)) (Two.eR (by ((try simp (disch := omega) only [w32i, Int.toNat_natCast]) <;> omega)) ?_)
                  refine Two.eL (by ((try simp (disch := omega) only [w32i, Int.toNat_natCast]) <;> omega)) (Two.iR (by omega) (Two.eR (by ((try simp (disch := omega) only [w32i, Int.toNat_natCast]) <;> omega)) ?_))
                  have hR5 : up c4 (t + 4) q 0 50 1 = (t : Int) := by rw [up_ne (by omega)]; exact hR4
                  refine Two.iL hR5 (Two.iL (by omega) (Two.bdL ?_))
                  unfold d_x8_place_131
                  refine Two.iR (by ((try simp (disch := omega) only [w32i, Int.toNat_natCast]) <;> omega)) (Two.bdR (Two.eR (by ((try simp (disch := omega) only [w32i, Int.toNat_natCast]) <;> omega)) ?_))
                  unfold d_x8_place_159 d_x4_askPlace_206
                  obtain ⟨m, rfl⟩ : ∃ m', m = m' + 1 := ⟨m - 1, by omega⟩
                  have H5 := U_dear h2 H4 hq1 met4 (by rw [pl4]; exact V4' (by omega))
                  have met5 : up c4 (t + 4) q 0 (t + 10) q = 1 := by rw [up_ne (by omega)]; exact met4
                  have A4' := A4
                  unfold An at A4'
                  have M5 : Mo t 192 c2 (up (up c4 (t + 4) q 0) (t + 3) q v4) := Mo.place h2 hq1 tl2 c3e M4 (fun a k z1 z2 z3 => by rw [up_app, if_neg z3, up_app, if_neg z1]) (by rw [up_ne (by omega), up_same]) (by rw [up_ne (by omega), up_ne (by omega)]; exact Int.le_refl _)
                  by_cases h0 : v4 = 0
                  · refine Two.iR (by ((try simp (disch := omega) only [w32i, Int.toNat_natCast]) <;> omega)) (Two.iR (by ((try simp (disch := omega) only [w32i, Int.toNat_natCast]) <;> omega)) (Two.bdR (Two.bdL ?_)))
                    rw [w32i (x := (q : Int)) (by omega) (by omega), Int.toNat_natCast]
                    have H6 := U_over h2 H5 hq1 met5 (v := v4) (w := 1) (x := up r4 88 q 0 86 q + 0) (Or.inl ⟨h0, rfl⟩) (by omega)
                    exact L_over H6 hq1 (by rw [up_same]; omega) hy (by omega) _ (fun v a b => ⟨H6, M02.trans M5, F04.trans ⟨fun a k _ => by rw [up_ne (by omega), up_ne (by omega), up_ne (by omega)], fun k _ _ => by rw [up_ne (by omega), up_ne (by omega), up_ne (by omega)]⟩, a, b⟩)
                  · refine Two.eR (by ((try simp (disch := omega) only [w32i, Int.toNat_natCast]) <;> omega)) (Two.iR (by ((try simp (disch := omega) only [w32i, Int.toNat_natCast]) <;> omega)) (Two.bdR (Two.bdL ?_)))
                    rw [w32i (x := (q : Int)) (by omega) (by omega), Int.toNat_natCast]
                    have H6 := U_over h2 H5 hq1 met5 (v := v4) (w := v4) (x := up r4 88 q 0 86 q + 0) (Or.inr ⟨by omega, by omega, rfl⟩) (by omega)
                    exact L_over H6 hq1 (by rw [up_same]; omega) hy (by omega) _ (fun v a b => ⟨H6, M02.trans M5, F04.trans ⟨fun a k _ => by rw [up_ne (by omega), up_ne (by omega), up_ne (by omega)], fun k _ _ => by rw [up_ne (by omega), up_ne (by omega), up_ne (by omega)]⟩, a, b⟩)
            have k19 := H3.ct 19 q (by omega) (by omega)
            have w1 := (H3.W.2 q hq).1
            refine Two.cL (e_seeks H3.ct H3.W hq) ?_
            by_cases hs : T 19 q = 4 ∨ T 19 q = 11
            · rw [if_pos hs]
              refine Two.eL (by decide) ?_
              exact cont _ (L_seek h2 hN IHp IH H3 hq hs hi64 pl3 c3t nx3 f3)
            · rw [if_neg hs]
              refine Two.iL (by decide) (Two.iL (by omega) ?_)
              by_cases hs7 : T 19 q = 7
              · refine Two.iL (by ((try simp (disch := omega) only [w32i, Int.toNat_natCast]) <;> omega)) ?_
                exact cont _ (L_merge h2 IHp IH H3 hq hs7 hi64 pl3 c3t f3)
              · refine Two.eL (by ((try simp (disch := omega) only [w32i, Int.toNat_natCast]) <;> omega)) ?_
                exact cont _ (L_tell hN IHp IH H3 hq hk0 (fun z => hs (Or.inl z)) hs7 (fun z => hs (Or.inr z)) hi64 f3)
          · (repeat (first | with_reducible refine Two.bdL ?_ | with_reducible refine Two.bdR ?_ | (with_reducible refine Two.iL ?_ ?_; · ((try simp (disch := omega) only [w32i, Int.toNat_natCast]) <;> omega)) | (with_reducible refine Two.eL ?_ ?_; · ((try simp (disch := omega) only [w32i, Int.toNat_natCast]) <;> omega)) | (with_reducible refine Two.iR ?_ ?_; · ((try simp (disch := omega) only [w32i, Int.toNat_natCast]) <;> omega)) | (with_reducible refine Two.eR ?_ ?_; · ((try simp (disch := omega) only [w32i, Int.toNat_natCast]) <;> omega))))
            refine Two.cL ((e_run H).trans (if_neg hrun)) ?_
            (repeat (first | with_reducible refine Two.bdL ?_ | with_reducible refine Two.bdR ?_ | (with_reducible refine Two.iL ?_ ?_; · ((try simp (disch := omega) only [w32i, Int.toNat_natCast]) <;> omega)) | (with_reducible refine Two.eL ?_ ?_; · ((try simp (disch := omega) only [w32i, Int.toNat_natCast]) <;> omega)) | (with_reducible refine Two.iR ?_ ?_; · ((try simp (disch := omega) only [w32i, Int.toNat_natCast]) <;> omega)) | (with_reducible refine Two.eR ?_ ?_; · ((try simp (disch := omega) only [w32i, Int.toNat_natCast]) <;> omega))))
            exact Two.ret rfl ⟨H, M, F, by unfold An; omega, fun z => by omega⟩
        · have e7 : c (t + 4) q = 1 := by omega
          clear e6
          (repeat (first | with_reducible refine Two.bdL ?_ | with_reducible refine Two.bdR ?_ | (with_reducible refine Two.iL ?_ ?_; · ((try simp (disch := omega) only [w32i, Int.toNat_natCast]) <;> omega)) | (with_reducible refine Two.eL ?_ ?_; · ((try simp (disch := omega) only [w32i, Int.toNat_natCast]) <;> omega)) | (with_reducible refine Two.iR ?_ ?_; · ((try simp (disch := omega) only [w32i, Int.toNat_natCast]) <;> omega)) | (with_reducible refine Two.eR ?_ ?_; · ((try simp (disch := omega) only [w32i, Int.toNat_natCast]) <;> omega))))
          exact Two.ret rfl ⟨H, M, F, by unfold An; omega, fun z => by omega⟩
    · exact L_over H hq1 hg hy hn2 _ (fun v a b => ⟨H, M, F, a, b⟩)
theorem L_place {t N : Nat} {T : St} {n : Nat} {A Hd P Q : St → Int → Int → Option Rs} (h2 : T2 t) (hN : 100 ≤ N) (IHp : AP t T n A P) (IH : AH t T n Hd Q) : AP t T ((n + 1 : Nat) : Int) (d_x4_askPlace N A Hd t) (d_x8_place N P Q) := by
  intro c r p x x' y y' z H hp hx hx' hy hy' hz0 hz1 hf
  subst hx hx' hy hy'
  unfold d_x4_askPlace d_x8_place
  refine Two.cL (e_behind H.W H.ct hN hp) ?_
  refine Two.cR (e_follow H.W H.rt hN hp) ?_
  rcases res_ok H.W hp with ⟨q, a1, a2, a3⟩ | a | a
  · rw [a1]
    have hq1 := a2.1
    by_cases h64 : y' < 64
    · have hR1 : c 50 1 = (t : Int) := H.R.1
      (repeat (first | with_reducible refine Two.bdL ?_ | with_reducible refine Two.bdR ?_ | (with_reducible refine Two.iL ?_ ?_; · ((try simp (disch := omega) only [w32i, Int.toNat_natCast]) <;> omega)) | (with_reducible refine Two.eL ?_ ?_; · ((try simp (disch := omega) only [w32i, Int.toNat_natCast]) <;> omega)) | (with_reducible refine Two.iR ?_ ?_; · ((try simp (disch := omega) only [w32i, Int.toNat_natCast]) <;> omega)) | (with_reducible refine Two.eR ?_ ?_; · ((try simp (disch := omega) only [w32i, Int.toNat_natCast]) <;> omega))))
      rw [w32i (x := (q : Int)) (by omega) (by omega), Int.toNat_natCast]
      have hP := H.P hq1
      unfold TP at hP
      refine Two.mono (L_placeL h2 hN IHp IH a2 a3 ⟨hz0, h64⟩ c r 64 N c r (c (t + 1) q) (by omega) (by omega) H (fun _ => rfl) (by omega) Mo.refl Fm.refl hf) (fun c' r' v w => ?_)
      exact ⟨w.1, w.2.1, w.2.2.1, w.2.2.2.1, fun z => ⟨q, a1, hq1, hz0, w.2.2.2.2 z⟩⟩
    · (repeat (first | with_reducible refine Two.bdL ?_ | with_reducible refine Two.bdR ?_ | (with_reducible refine Two.iL ?_ ?_; · ((try simp (disch := omega) only [w32i, Int.toNat_natCast]) <;> omega)) | (with_reducible refine Two.eL ?_ ?_; · ((try simp (disch := omega) only [w32i, Int.toNat_natCast]) <;> omega)) | (with_reducible refine Two.iR ?_ ?_; · ((try simp (disch := omega) only [w32i, Int.toNat_natCast]) <;> omega)) | (with_reducible refine Two.eR ?_ ?_; · ((try simp (disch := omega) only [w32i, Int.toNat_natCast]) <;> omega))))
      exact Two.ret rfl ⟨H, Mo.refl, Fm.refl, by unfold An; omega, fun z => by omega⟩
  · rw [a]
    refine Two.iL (by decide) (Two.iR (by decide) ?_)
    exact Two.ret rfl ⟨H, Mo.refl, Fm.refl, by unfold An; omega, fun z => by omega⟩
  · rw [a]
    refine Two.iL (by decide) (Two.iR (by decide) ?_)
    exact Two.ret rfl ⟨H, Mo.refl, Fm.refl, by unfold An; omega, fun z => by omega⟩
/-- class and model tell alike -/
theorem L_all {t N : Nat} {T : St} (h2 : T2 t) (hN : 100 ≤ N) : ∀ n : Nat, AP t T n (gc N t n).1 (gm N n).1 ∧ AH t T n (gc N t n).2 (gm N n).2 := by
  intro n
  induction n with
  | zero =>
    refine ⟨fun c r p x x' y y' z H _ _ _ _ _ _ _ hf => ?_, fun c r p x x' y y' z H _ _ _ _ _ _ hf => ?_⟩
    · have hR := H.R
      unfold TR at hR
      omega
    · have hR := H.R
      unfold TR at hR
      omega
  | succ n ih => exact ⟨L_place h2 hN ih.1 ih.2, L_ask h2 hN ih.2⟩
end
section
def One (A : Option Rs) (Q : St → Int → Prop) : Prop := ∃ s v, A = some (s, v) ∧ Q s v
theorem One.ret {s : St} {v : Int} {Q : St → Int → Prop} (q : Q s v) : One (some (s, v)) Q := ⟨s, v, rfl, q⟩
theorem One.i {p : Prop} [Decidable p] {A A' : Option Rs} {Q : St → Int → Prop} (h : p) (k : One A Q) : One (if p then A else A') Q := by rw [if_pos h]; exact k
theorem One.e {p : Prop} [Decidable p] {A A' : Option Rs} {Q : St → Int → Prop} (h : ¬ p) (k : One A' Q) : One (if p then A else A') Q := by rw [if_neg h]; exact k
theorem One.bd {α : Type} {x : α} {f : α → Option Rs} {Q : St → Int → Prop} (k : One (f x) Q) : One (bd x f) Q := k
theorem One.c {s : St} {v : Int} {K : St → Int → Option Rs} {A : Option Rs} {Q : St → Int → Prop} (h : A = some (s, v)) (k : One (K s v) Q) : One (bI A K) Q := by rw [h]; exact k
theorem One.v {s : St} {v : Int} {K : St → Option Rs} {A : Option Rs} {Q : St → Int → Prop} (h : A = some (s, v)) (k : One (K s) Q) : One (bV A K) Q := by rw [h]; exact k
theorem One.call {K : St → Int → Option Rs} {A : Option Rs} {Q Q' : St → Int → Prop} (h : One A Q') (k : ∀ s v, Q' s v → One (K s v) Q) : One (bI A K) Q := by
  obtain ⟨s, v, h1, h2⟩ := h
  rw [h1]
  exact k s v h2
theorem One.callV {K : St → Option Rs} {A : Option Rs} {Q Q' : St → Int → Prop} (h : One A Q') (k : ∀ s v, Q' s v → One (K s) Q) : One (bV A K) Q := by
  obtain ⟨s, v, h1, h2⟩ := h
  rw [h1]
  exact k s v h2
theorem One.mono {A : Option Rs} {Q Q' : St → Int → Prop} (h : One A Q) (k : ∀ s v, Q s v → Q' s v) : One A Q' := by
  obtain ⟨s, v, h1, h2⟩ := h
  exact ⟨s, v, h1, k s v h2⟩
theorem Two.oL {K : St → Int → Option Rs} {A B : Option Rs} {Q : St → St → Int → Prop} {Q' : St → Int → Prop} (h : One A Q') (k : ∀ s v, Q' s v → Two (K s v) B Q) : Two (bI A K) B Q := by
  obtain ⟨s, v, h1, h2⟩ := h
  rw [h1]
  exact k s v h2
theorem Two.oR {K : St → Int → Option Rs} {A B : Option Rs} {Q : St → St → Int → Prop} {Q' : St → Int → Prop} (h : One A Q') (k : ∀ s v, Q' s v → Two B (K s v) Q) : Two B (bI A K) Q := by
  obtain ⟨s, v, h1, h2⟩ := h
  rw [h1]
  exact k s v h2
theorem Two.oLV {K : St → Option Rs} {A B : Option Rs} {Q : St → St → Int → Prop} {Q' : St → Int → Prop} (h : One A Q') (k : ∀ s v, Q' s v → Two (K s) B Q) : Two (bV A K) B Q := by
  obtain ⟨s, v, h1, h2⟩ := h
  rw [h1]
  exact k s v h2
theorem Two.oRV {K : St → Option Rs} {A B : Option Rs} {Q : St → St → Int → Prop} {Q' : St → Int → Prop} (h : One A Q') (k : ∀ s v, Q' s v → Two B (K s) Q) : Two B (bV A K) Q := by
  obtain ⟨s, v, h1, h2⟩ := h
  rw [h1]
  exact k s v h2
/-- a table that may be emptied or copied -/
def MU (t : Nat) (c : St) : Prop := 0 ≤ c t 11 ∧ c t 11 ≤ 192
  ∧ (∀ m : Nat, (m : Int) < c t 11 → 0 ≤ c (t + 11) m ∧ c (t + 11) m < 192 ∧ c (t + 10) (c (t + 11) m).toNat = 1)
  ∧ (∀ m m' : Nat, (m : Int) < c t 11 → (m' : Int) < c t 11 → c (t + 11) m = c (t + 11) m' → m = m')
  ∧ (∀ p : Nat, p < 192 → (c (t + 10) p = 0 ∧ c (t + 1) p = 0 ∧ c (t + 2) p = 0 ∧ c (t + 3) p = 1 ∧ c (t + 4) p = 0 ∧ c (t + 5) p = 0 ∧ c (t + 6) p = 0) ∨ (c (t + 10) p = 1 ∧ ∃ m : Nat, (m : Int) < c t 11 ∧ c (t + 11) m = p))
def UT (t : Nat) (c : St) : Prop := MU t c ∧ (∀ p, p < 192 → 0 ≤ c (t + 1) p ∧ c (t + 1) p ≤ 64) ∧ (∀ p i : Nat, p < 192 → i < 64 → (c (t + 7) (64 * p + i) ≠ 0 → (i : Int) < c (t + 1) p)) ∧ KB t c ∧ (∀ p i : Nat, p < 192 → i < 64 → -128 ≤ c (t + 7) (64 * p + i) ∧ c (t + 7) (64 * p + i) ≤ 127)
/-- part p of a table is empty -/
def IN (t : Nat) (d : St) (p : Nat) : Prop := d (t + 1) p = 0 ∧ d (t + 2) p = 0 ∧ d (t + 3) p = 1 ∧ d (t + 4) p = 0 ∧ d (t + 5) p = 0 ∧ d (t + 6) p = 0 ∧ d (t + 10) p = 0 ∧ ∀ i : Nat, i < 64 → d (t + 7) (64 * p + i) = 0
def SM (t : Nat) (c d : St) (p : Nat) : Prop := (∀ j, 1 ≤ j → j ≤ 6 → d (t + j) p = c (t + j) p) ∧ d (t + 10) p = c (t + 10) p ∧ ∀ i : Nat, i < 64 → d (t + 7) (64 * p + i) = c (t + 7) (64 * p + i)
def US (t : Nat) (c : St) (S : Nat → Prop) (d : St) : Prop := (∀ a k, ¬ (t + 1 ≤ a ∧ a ≤ t + 7) → a ≠ t + 10 → d a k = c a k) ∧ ∀ p, p < 192 → (S p ∧ IN t d p) ∨ (¬ S p ∧ SM t c d p)
theorem MT.mu {t : Nat} {T c : St} (H : MT t T c) : MU t c := ⟨H.1, H.2.1, H.2.2.1, H.2.2.2.1, fun p hp => by
  rcases H.2.2.2.2 p hp with z | z
  · exact Or.inl z
  · exact Or.inr ⟨z.1, z.2.2⟩⟩
theorem UT.of {t : Nat} {T c r : St} (H : MT t T c) (S : TS t T c r) : UT t c := ⟨H.mu, fun p hp => by have h := S.1 p hp; unfold TP at h; omega, fun p i hp hi => (S.2.1 p i hp hi).2.2.1, S.2.2.2.2.2, fun p i hp hi => by have h := (S.2.1 p i hp hi).2.1; omega⟩
theorem UT.cong {t : Nat} {c c' : St} (H : UT t c) (e : ∀ a k, t ≤ a → a ≤ t + 11 → c' a k = c a k) : UT t c' := by
  have e0 := fun k => e t k (by omega) (by omega)
  have e1 := fun k => e (t + 1) k (by omega) (by omega)
  have e2 := fun k => e (t + 2) k (by omega) (by omega)
  have e3 := fun k => e (t + 3) k (by omega) (by omega)
  have e4 := fun k => e (t + 4) k (by omega) (by omega)
  have e5 := fun k => e (t + 5) k (by omega) (by omega)
  have e6 := fun k => e (t + 6) k (by omega) (by omega)
  have e7 := fun k => e (t + 7) k (by omega) (by omega)
  have e9 := fun k => e (t + 9) k (by omega) (by omega)
  have e10 := fun k => e (t + 10) k (by omega) (by omega)
  have e11 := fun k => e (t + 11) k (by omega) (by omega)
  unfold UT MU KB at *
  simp only [e0, e1, e2, e3, e4, e5, e6, e7, e9, e10, e11]
  exact H
theorem e_untP {t N : Nat} {c : St} {S : Nat → Prop} {p : Nat} (hp : p < 192) : ∀ (k m : Nat) (d : St) (j n : Nat), d (t + 1) p = n → n ≤ 64 → j + k = n → k < m → (∀ a k, ¬ (t + 1 ≤ a ∧ a ≤ t + 7) → a ≠ t + 10 → d a k = c a k) → (∀ q, q < 192 → q ≠ p → (S q ∧ IN t d q) ∨ (¬ S q ∧ SM t c d q)) → (∀ i : Nat, i < 64 → (i < j ∨ n ≤ i) → d (t + 7) (64 * p + i) = 0) →
    One (d_x6_untellPart_7L N t m d (p : Int) ((p : Int) * 64) (j : Int)) (fun d' _ => US t c (fun q => S q ∨ q = p) d') := by
  intro k
  induction k with
  | zero =>
    intro m d j n h1 h2 h3 h4 h5 h6 h7
    obtain ⟨m, rfl⟩ : ∃ m', m = m' + 1 := ⟨m - 1, by omega⟩
    show One (d_x6_untellPart_7 N t (d_x6_untellPart_7L N t m) d p _ j) _
    unfold d_x6_untellPart_7
    (repeat (first | with_reducible refine One.bd ?_ | (with_reducible refine One.i ?_ ?_; · ((try simp (disch := omega) only [w32i, Int.toNat_natCast, h1]) <;> omega)) | (with_reducible refine One.e ?_ ?_; · ((try simp (disch := omega) only [w32i, Int.toNat_natCast, h1]) <;> omega))))
    rw [w32i (x := (p : Int)) (by omega) (by omega), Int.toNat_natCast, and01]
    refine One.ret ⟨fun a k z y => ?_, fun q hq => ?_⟩
    · simp (disch := omega) only [up_ne]
      exact h5 a k z y
    · by_cases e : q = p
      · subst e
        left
        refine ⟨Or.inr rfl, ?_⟩
        unfold IN
        simp (disch := omega) only [up_ne, up_same, true_and]
        intro i hi
        exact h7 i hi (by omega)
      · rcases h6 q hq e with ⟨z1, z2⟩ | ⟨z1, z2⟩
        · left
          refine ⟨Or.inl z1, ?_⟩
          unfold IN at *
          simp (disch := omega) only [up_ne, up_nj]
          exact z2
        · right
          refine ⟨fun z => z.elim z1 e, ?_⟩
          unfold SM at *
          refine ⟨fun j a b => ?_, ?_, fun i hi => ?_⟩
          · rw [up_nj e, up_nj e, up_nj e, up_nj e, up_nj e, up_nj e, up_nj e]
            exact z2.1 j a b
          · rw [up_nj e, up_ne (by omega), up_ne (by omega), up_ne (by omega), up_ne (by omega), up_ne (by omega), up_ne (by omega)]
            exact z2.2.1
          · simp (disch := omega) only [up_ne]
            exact z2.2.2 i hi
  | succ k ih =>
    intro m d j n h1 h2 h3 h4 h5 h6 h7
    obtain ⟨m, rfl⟩ : ∃ m', m = m' + 1 := ⟨m - 1, by omega⟩
    show One (d_x6_untellPart_7 N t (d_x6_untellPart_7L N t m) d p _ j) _
    unfold d_x6_untellPart_7
    have e64 : ((p : Int) * 64 + (j : Int)).toNat = 64 * p + j := by omega
    (repeat (first | with_reducible refine One.bd ?_ | (with_reducible refine One.i ?_ ?_; · ((try simp (disch := omega) only [w32i, Int.toNat_natCast, h1]) <;> omega)) | (with_reducible refine One.e ?_ ?_; · ((try simp (disch := omega) only [w32i, Int.toNat_natCast, h1]) <;> omega))))
    rw [w32i (x := (p : Int) * 64 + (j : Int)) (by omega) (by omega), e64, show w8 0 = 0 from rfl]
    refine ih m _ (j + 1) n (by rw [up_ne (by omega)]; exact h1) h2 (by omega) (by omega) (fun a k z y => by rw [up_ne (by omega)]; exact h5 a k z y) (fun q hq hne => ?_) (fun i hi hor => ?_)
    · rcases h6 q hq hne with ⟨z1, z2⟩ | ⟨z1, z2⟩
      · left
        refine ⟨z1, ?_⟩
        unfold IN at *
        simp (disch := omega) only [up_ne]
        refine ⟨z2.1, z2.2.1, z2.2.2.1, z2.2.2.2.1, z2.2.2.2.2.1, z2.2.2.2.2.2.1, z2.2.2.2.2.2.2.1, fun i hi => ?_⟩
        rw [up_nj (by omega)]
        exact z2.2.2.2.2.2.2.2 i hi
      · right
        refine ⟨z1, ?_⟩
        unfold SM at *
        refine ⟨fun j a b => ?_, ?_, fun i hi => ?_⟩
        · rw [up_ne (by omega)]
          exact z2.1 j a b
        · rw [up_ne (by omega)]
          exact z2.2.1
        · rw [up_nj (by omega)]
          exact z2.2.2 i hi
    · by_cases e : i = j
      · subst e; rw [up_same]
      · rw [up_nj (by omega)]
        exact h7 i hi (by omega)
theorem US.part {t N : Nat} {c d : St} {S : Nat → Prop} {p : Nat} (hN : 100 ≤ N) (H : UT t c) (U : US t c S d) (hp : p < 192) : One (d_x6_untellPart N t d (p : Int)) (fun d' _ => US t c (fun q => S q ∨ q = p) d') := by
  unfold d_x6_untellPart
  refine One.bd ?_
  have hc := H.2.1 p hp
  have key : ∃ n : Nat, d (t + 1) p = n ∧ n ≤ 64 ∧ ∀ i : Nat, i < 64 → n ≤ i → d (t + 7) (64 * p + i) = 0 := by
    rcases U.2 p hp with ⟨_, z⟩ | ⟨_, z⟩
    · exact ⟨0, z.1, by omega, fun i hi _ => z.2.2.2.2.2.2.2 i hi⟩
    · refine ⟨(c (t + 1) p).toNat, ?_, by omega, fun i hi hn => ?_⟩
      · rw [z.1 1 (by omega) (by omega)]; omega
      · rw [z.2.2 i hi]
        have := H.2.2.1 p i hp hi
        by_cases e : c (t + 7) (64 * p + i) = 0
        · exact e
        · have := this e
          omega
  obtain ⟨n, k1, k2, k3⟩ := key
  exact e_untP hp n N d 0 n k1 k2 (by omega) (by omega) U.1 (fun q hq _ => U.2 q hq) (fun i hi h => k3 i hi (by omega))
def TZ (t : Nat) (c : St) : Prop := c t 11 = 0 ∧ ∀ p, p < 192 → IN t c p
theorem e_untL {t N : Nat} {c : St} (hN : 200 ≤ N) (H : UT t c) : ∀ (k m : Nat) (d : St) (j : Nat) (S : Nat → Prop), (j : Int) + k = c t 11 → k < m → US t c S d → (∀ i : Nat, i < j → S (c (t + 11) i).toNat) → One (d_x6_untell_2L N t m d (j : Int)) (fun d' _ => TZ t d' ∧ (∀ a k, ¬ (t ≤ a ∧ a ≤ t + 11) → d' a k = c a k) ∧ (∀ k, d' (t + 8) k = c (t + 8) k) ∧ ∀ k, d' (t + 9) k = c (t + 9) k) := by
  intro k
  obtain ⟨h1, h9, h3, h4, h5⟩ := H.1
  induction k with
  | zero =>
    intro m d j S hj hm U hS
    obtain ⟨m, rfl⟩ : ∃ m', m = m' + 1 := ⟨m - 1, by omega⟩
    show One (d_x6_untell_2 N t (d_x6_untell_2L N t m) d j) _
    unfold d_x6_untell_2
    have e11 : d t 11 = c t 11 := U.1 t 11 (by omega) (by omega)
    (repeat (first | with_reducible refine One.bd ?_ | (with_reducible refine One.i ?_ ?_; · ((try simp (disch := omega) only [w32i, Int.toNat_natCast, e11]) <;> omega)) | (with_reducible refine One.e ?_ ?_; · ((try simp (disch := omega) only [w32i, Int.toNat_natCast, e11]) <;> omega))))
    refine One.ret ⟨⟨up_same, fun p hp => ?_⟩, fun a k z => ?_, fun k => ?_, fun k => ?_⟩
    · have key : IN t d p := by
        rcases U.2 p hp with ⟨_, z⟩ | ⟨z1, z⟩
        · exact z
        · rcases h5 p hp with y | ⟨_, m, y1, y2⟩
          · unfold IN
            rw [z.1 1 (by omega) (by omega), z.1 2 (by omega) (by omega), z.1 3 (by omega) (by omega), z.1 4 (by omega) (by omega), z.1 5 (by omega) (by omega), z.1 6 (by omega) (by omega), z.2.1]
            refine ⟨y.2.1, y.2.2.1, y.2.2.2.1, y.2.2.2.2.1, y.2.2.2.2.2.1, y.2.2.2.2.2.2, y.1, fun i hi => ?_⟩
            rw [z.2.2 i hi]
            have := H.2.2.1 p i hp hi
            by_cases e : c (t + 7) (64 * p + i) = 0
            · exact e
            · have := this e
              omega
          · have := hS m (by omega)
            rw [y2, Int.toNat_natCast] at this
            exact absurd this z1
      unfold IN at *
      simp (disch := omega) only [up_ne]
      exact key
    · rw [up_ne (by omega)]
      exact U.1 a k (by omega) (by omega)
    · rw [up_ne (by omega)]
      exact U.1 _ k (by omega) (by omega)
    · rw [up_ne (by omega)]
      exact U.1 _ k (by omega) (by omega)
  | succ k ih =>
    intro m d j S hj hm U hS
    obtain ⟨m, rfl⟩ : ∃ m', m = m' + 1 := ⟨m - 1, by omega⟩
    show One (d_x6_untell_2 N t (d_x6_untell_2L N t m) d j) _
    unfold d_x6_untell_2
    have e11 : d t 11 = c t 11 := U.1 t 11 (by omega) (by omega)
    have e12 : d (t + 11) j = c (t + 11) j := U.1 _ _ (by omega) (by omega)
    have r3 := h3 j (by omega)
    obtain ⟨p, hp⟩ : ∃ p : Nat, c (t + 11) j = p := ⟨(c (t + 11) j).toNat, by omega⟩
    (repeat (first | with_reducible refine One.bd ?_ | (with_reducible refine One.i ?_ ?_; · ((try simp (disch := omega) only [w32i, Int.toNat_natCast, e11]) <;> omega)) | (with_reducible refine One.e ?_ ?_; · ((try simp (disch := omega) only [w32i, Int.toNat_natCast, e11]) <;> omega))))
    rw [w32i (x := (j : Int)) (by omega) (by omega), Int.toNat_natCast, e12, hp]
    refine One.callV (US.part (by omega) H U (by omega)) (fun d' v q => ?_)
    refine One.bd ?_
    refine ih m d' (j + 1) _ (by omega) (by omega) q (fun i hi => ?_)
    by_cases e : i = j
    · right
      rw [e, hp, Int.toNat_natCast]
    · exact Or.inl (hS i (by omega))
/-- all is untold -/
theorem e_untell {t N : Nat} {c : St} (hN : 200 ≤ N) (H : UT t c) : One (d_x6_untell N t c) (fun d' _ => TZ t d' ∧ (∀ a k, ¬ (t ≤ a ∧ a ≤ t + 11) → d' a k = c a k) ∧ (∀ k, d' (t + 8) k = c (t + 8) k) ∧ ∀ k, d' (t + 9) k = c (t + 9) k) := by
  unfold d_x6_untell
  have := H.1.1
  have := H.1.2.1
  exact e_untL hN H (c t 11).toNat N c 0 (fun _ => False) (by omega) (by omega) ⟨fun _ _ _ _ => rfl, fun p hp => Or.inr ⟨fun h => h, fun _ _ _ => rfl, rfl, fun _ _ => rfl⟩⟩ (fun i hi => by omega)
theorem TZ.ut {t : Nat} {c : St} (H : TZ t c) (B : KB t c) : UT t c := by
  refine ⟨⟨by rw [H.1]; omega, by rw [H.1]; omega, fun m hm => by rw [H.1] at hm; omega, fun m m' hm => by rw [H.1] at hm; omega, fun p hp => Or.inl ?_⟩, fun p hp => ?_, fun p i hp hi h => absurd ((H.2 p hp).2.2.2.2.2.2.2 i hi) h, B, fun p i hp hi => by rw [(H.2 p hp).2.2.2.2.2.2.2 i hi]; omega⟩
  · have z := H.2 p hp
    exact ⟨z.2.2.2.2.2.2.1, z.1, z.2.1, z.2.2.1, z.2.2.2.1, z.2.2.2.2.1, z.2.2.2.2.2.1⟩
  · have z := (H.2 p hp).1
    omega
def MZ (r : St) : Prop := (∀ p, p < 192 → r 86 p = 0 ∧ r 87 p = 0 ∧ r 88 p = 0 ∧ r 89 p = 0 ∧ r 90 p = 0) ∧ ∀ k, k < 12288 → r 91 k = 0
theorem cn_0 {f : Nat → Int} : ∀ n : Nat, (∀ i, i < n → f i = 0) → cn f n = 0 := by
  intro n
  induction n with
  | zero => intro _; rfl
  | succ n ih =>
    intro h
    show cn f n + (if f n = 0 ∨ f n = 2 then 0 else 1) = 0
    rw [ih (fun i hi => h i (by omega)), if_pos (Or.inl (h n (by omega)))]
    rfl
theorem TZ.ts {t : Nat} {T c r : St} (H : TZ t c) (Z : MZ r) (B : KB t c) : TS t T c r ∧ MT t T c := by
  refine ⟨⟨fun p hp => ?_, fun p i hp hi => ?_, fun p hp => ?_, fun p i hp hi => ?_, fun p hp => ?_, B⟩, ⟨by rw [H.1]; omega, by rw [H.1]; omega, fun m hm => by rw [H.1] at hm; omega, fun m m' hm => by rw [H.1] at hm; omega, fun p hp => Or.inl ?_⟩⟩
  · have z := H.2 p hp
    have y := Z.1 p hp
    unfold TP
    rw [z.1, z.2.2.1, z.2.2.2.1, y.1, y.2.1, y.2.2.1]
    omega
  · have z := (H.2 p hp).2.2.2.2.2.2.2 i hi
    have y := Z.2 (64 * p + i) (by omega)
    unfold TM
    rw [z, y]
    exact ⟨rfl, Or.inl rfl, fun h => absurd rfl h, fun h => by omega⟩
  · have z := H.2 p hp.1
    have y := Z.1 p hp.1
    unfold TN NX
    rw [z.1, z.2.2.2.2.1, z.2.2.2.2.2.1, y.2.2.2.1, y.2.2.2.2]
    exact ⟨fun _ _ => ⟨fun _ => rfl, fun i hi => by omega⟩, fun _ => by omega⟩
  · have z := H.2 p hp.1
    rw [z.1] at hi
    omega
  · have z := H.2 p hp
    unfold HC
    rw [z.2.1]
    exact (cn_0 64 (fun i hi => z.2.2.2.2.2.2.2 i hi)).symm
  · have z := H.2 p hp
    exact ⟨z.2.2.2.2.2.2.1, z.1, z.2.1, z.2.2.1, z.2.2.2.1, z.2.2.2.2.1, z.2.2.2.2.2.1⟩
end
section
theorem fits_b {x : Int} (h1 : -128 ≤ x) (h2 : x ≤ 127) : fits .byte (vi x) = true := by
  show (decide ((-128 : Int32) ≤ Int32.ofInt x) && decide (Int32.ofInt x ≤ (127 : Int32))) = true
  rw [show (-128 : Int32) = Int32.ofInt (-128) from rfl, show (127 : Int32) = Int32.ofInt 127 from rfl, Bool.and_eq_true, decide_eq_true_iff, decide_eq_true_iff, i32_le, i32_le, w32i (x := x) (by omega) (by omega), w32i (x := -128) (by omega) (by omega), w32i (x := 127) (by omega) (by omega)]
  exact ⟨h1, h2⟩
theorem cp_at {s : St} {a0 a1 b n i : Nat} (h : i < n) : cp s a0 b a1 b n a1 (b + i) = s a0 (b + i) := by
  rw [cp_app, if_pos (by omega)]
  have e : b + (b + i - b) = b + i := by omega
  rw [e]
theorem cp_o {s : St} {a0 a1 b b' n k : Nat} (h : k < b ∨ b + n ≤ k) : cp s a0 b' a1 b n a1 k = s a1 k := by
  rw [cp_app, if_neg (by omega)]
theorem e_unsI {N p : Nat} {K : St → Int → Option Rs} (hp : p < 192) : ∀ (k m : Nat) (d : St) (j : Nat), j + k = 64 → k < m → d_x8_untells_46L N K m d (p : Int) (j : Int) = K (fz d 91 (64 * p + j) k 0) ((p + 1 : Nat) : Int) := by
  intro k
  induction k with
  | zero =>
    intro m d j hj hm
    obtain ⟨m, rfl⟩ : ∃ m', m = m' + 1 := ⟨m - 1, by omega⟩
    show d_x8_untells_46 N K (d_x8_untells_46L N K m) d p j = _
    unfold d_x8_untells_46
    rw [w32i (x := (j : Int)) (by omega) (by omega), if_neg (by omega), fz_0]
    rfl
  | succ k ih =>
    intro m d j hj hm
    obtain ⟨m, rfl⟩ : ∃ m', m = m' + 1 := ⟨m - 1, by omega⟩
    show d_x8_untells_46 N K (d_x8_untells_46L N K m) d p j = _
    unfold d_x8_untells_46
    rw [w32i (x := (j : Int)) (by omega) (by omega), if_pos (by omega), w32i (x := 64 * (p : Int) + j) (by omega) (by omega), if_pos (by omega), bd_eq, bd_eq, show (64 * (p : Int) + j).toNat = 64 * p + j by omega]
    have := ih m (up d 91 (64 * p + j) 0) (j + 1) (by omega) (by omega)
    rw [← Nat.add_assoc, fz_up] at this
    exact this
theorem e_unsL {N : Nat} (hN : 200 ≤ N) (r : St) : ∀ (k m : Nat) (d : St) (p : Nat), p + k = 192 → k < m → (∀ q, q < p → d 86 q = 0 ∧ d 87 q = 0 ∧ d 88 q = 0 ∧ d 89 q = 0 ∧ d 90 q = 0) → (∀ k, k < 64 * p → d 91 k = 0) → (∀ a k, ¬ (86 ≤ a ∧ a ≤ 91) → d a k = r a k) → One (d_x8_untells_2L N m d (p : Int)) (fun r' _ => MZ r' ∧ ∀ a k, ¬ (86 ≤ a ∧ a ≤ 91) → r' a k = r a k) := by
  intro k
  induction k with
  | zero =>
    intro m d p hp hm h1 h2 h3
    obtain ⟨m, rfl⟩ : ∃ m', m = m' + 1 := ⟨m - 1, by omega⟩
    show One (d_x8_untells_2 N (d_x8_untells_2L N m) d p) _
    unfold d_x8_untells_2
    (repeat (first | with_reducible refine One.bd ?_ | (with_reducible refine One.i ?_ ?_; · ((try simp (disch := omega) only [w32i, Int.toNat_natCast]) <;> omega)) | (with_reducible refine One.e ?_ ?_; · ((try simp (disch := omega) only [w32i, Int.toNat_natCast]) <;> omega))))
    exact One.ret ⟨⟨fun q hq => h1 q (by omega), fun k hk => h2 k (by omega)⟩, h3⟩
  | succ k ih =>
    intro m d p hp hm h1 h2 h3
    obtain ⟨m, rfl⟩ : ∃ m', m = m' + 1 := ⟨m - 1, by omega⟩
    show One (d_x8_untells_2 N (d_x8_untells_2L N m) d p) _
    unfold d_x8_untells_2
    (repeat (first | with_reducible refine One.bd ?_ | (with_reducible refine One.i ?_ ?_; · ((try simp (disch := omega) only [w32i, Int.toNat_natCast]) <;> omega)) | (with_reducible refine One.e ?_ ?_; · ((try simp (disch := omega) only [w32i, Int.toNat_natCast]) <;> omega))))
    rw [w32i (x := (p : Int)) (by omega) (by omega), Int.toNat_natCast, and01]
    show One (d_x8_untells_46L N (d_x8_untells_2L N m) N _ (p : Int) ((0 : Nat) : Int)) _
    rw [e_unsI (by omega) 64 N _ 0 (by omega) (by omega)]
    refine ih m _ (p + 1) (by omega) (by omega) (fun q hq => ?_) (fun k hk => ?_) (fun a k z => ?_)
    · rw [fz_app, if_neg (by omega), fz_app, if_neg (by omega), fz_app, if_neg (by omega), fz_app, if_neg (by omega), fz_app, if_neg (by omega)]
      by_cases e : q = p
      · subst e
        simp (disch := omega) only [up_ne, up_same, and_self]
      · simp (disch := omega) only [up_ne, up_nj]
        exact h1 q (by omega)
    · rw [fz_app]
      by_cases e : 64 * p ≤ k
      · rw [if_pos (by omega)]
      · rw [if_neg (by omega)]
        simp (disch := omega) only [up_ne]
        exact h2 k (by omega)
    · rw [fz_app, if_neg (by omega)]
      simp (disch := omega) only [up_ne]
      exact h3 a k z
theorem e_untells {N : Nat} (hN : 200 ≤ N) (r : St) : One (d_x8_untells N r) (fun r' _ => MZ r' ∧ ∀ a k, ¬ (86 ≤ a ∧ a ≤ 91) → r' a k = r a k) := e_unsL hN r 192 N r 0 (by omega) (by omega) (fun q hq => by omega) (fun k hk => by omega) (fun _ _ _ => rfl)
/-- table t2 of c has come to t -/
def CD (t t2 : Nat) (c d : St) (p : Nat) : Prop := d (t + 1) p = c (t2 + 1) p ∧ d (t + 2) p = c (t2 + 2) p ∧ d (t + 3) p = c (t2 + 3) p ∧ d (t + 4) p = 0 ∧ d (t + 5) p = c (t2 + 5) p ∧ d (t + 6) p = c (t2 + 6) p ∧ d (t + 10) p = c (t2 + 10) p ∧ (∀ i : Nat, i < 64 → d (t + 7) (64 * p + i) = c (t2 + 7) (64 * p + i)) ∧ (∀ i : Nat, (i : Int) < c (t2 + 1) p → d (t + 8) (64 * p + i) = c (t2 + 8) (64 * p + i) ∧ d (t + 9) (64 * p + i) = c (t2 + 9) (64 * p + i))
def CE (t t2 : Nat) (c d : St) : Prop := d t 11 = c t2 11 ∧ (∀ m : Nat, (m : Int) < c t2 11 → d (t + 11) m = c (t2 + 11) m) ∧ (∀ p, p < 192 → CD t t2 c d p) ∧ KB t d
def CI (t t2 : Nat) (c : St) (S : Nat → Prop) (j : Nat) (d : St) : Prop := (∀ a k, ¬ (t ≤ a ∧ a ≤ t + 11) → d a k = c a k) ∧ d t 11 = j ∧ (∀ m : Nat, m < j → d (t + 11) m = c (t2 + 11) m) ∧ (∀ p, p < 192 → (S p ∧ CD t t2 c d p) ∨ (¬ S p ∧ IN t d p)) ∧ KB t d
theorem e_takeP {t t2 N : Nat} {c d : St} {S : Nat → Prop} {j p : Nat} (ht : t + 11 < t2 ∨ t2 + 11 < t) (H : UT t2 c) (I : CI t t2 c S j d) (hp : p < 192) (hS : ¬ S p) (hj : j < 192) (hm : c (t2 + 10) p = 1) (hq : c (t2 + 11) j = p) : One (d_x6_takePart N t t2 d (p : Int)) (fun d' _ => CI t t2 c (fun q => S q ∨ q = p) (j + 1) d') := by
  obtain ⟨i1, i2, i3, i4, i5⟩ := I
  have hin : IN t d p := by
    rcases i4 p hp with z | z
    · exact absurd z.1 hS
    · exact z.2
  obtain ⟨n, hn⟩ : ∃ n : Nat, c (t2 + 1) p = n := ⟨(c (t2 + 1) p).toNat, by have := H.2.1 p hp; omega⟩
  have hn64 : n ≤ 64 := by have := H.2.1 p hp; omega
  have g1 : d (t2 + 1) p = n := by rw [i1 _ _ (by omega)]; exact hn
  unfold d_x6_takePart
  refine One.i (by ((try simp (disch := omega) only [w32i, Int.toNat_natCast]) <;> omega)) (One.bd (One.bd ?_))
  rw [w32i (x := (p : Int)) (by omega) (by omega), Int.toNat_natCast, g1]
  have hmeet : d_x6_meet N t d (p : Int) = some (up (up (up d (t + 10) p 1) (t + 11) j p) t 11 ((j : Int) + 1), 0) := by
    unfold d_x6_meet
    have h10 : d (t + 10) p = 0 := hin.2.2.2.2.2.2.1
    have h11 : up d (t + 10) p 1 t 11 = j := by rw [up_ne (by omega)]; exact i2
    rw [w32i (x := (p : Int)) (by omega) (by omega), Int.toNat_natCast, if_pos (by omega), h10, w32_0, if_pos rfl, i2, w32i (x := (j : Int)) (by omega) (by omega), w32i (x := ((192 : Nat) : Int)) (by omega) (by omega), if_pos (by omega), if_pos (by omega), bd_eq, and11, h11, w32i (x := (j : Int)) (by omega) (by omega), if_pos (by omega), bd_eq, bd_eq, Int.toNat_natCast, up_ne (a := t + 11) (b := t) (by omega), h11]
  refine One.v hmeet ?_
  have e64 : ((p : Int) * 64).toNat = 64 * p := by omega
  have l2 : ∀ a k, ¬ (t ≤ a ∧ a ≤ t + 11) → up (up (up d (t + 10) p 1) (t + 11) j p) t 11 ((j : Int) + 1) a k = c a k := by
    intro a k z
    rw [up_ne (by omega), up_ne (by omega), up_ne (by omega)]
    exact i1 a k z
  have hmk : ∀ i : Nat, i < n → -128 ≤ c (t2 + 7) (64 * p + i) ∧ c (t2 + 7) (64 * p + i) ≤ 127 := fun i hi => H.2.2.2.2 p i hp (by omega)
  have hkp : ∀ i : Nat, i < n → -128 ≤ c (t2 + 9) (64 * p + i) ∧ c (t2 + 9) (64 * p + i) ≤ 127 := fun i hi => H.2.2.2.1 (64 * p + i) (by omega)
  refine One.i (by omega) (One.bd (One.i (by omega) (One.i (by omega) (One.bd (One.i (by omega) (One.i (by omega) (One.bd (One.i (by omega) (One.i (by omega) (One.bd (One.i (by omega) (One.i (by omega) (One.bd ?_)))))))))))))
  rw [w32i (x := (n : Int)) (by omega) (by omega), w32i (x := (p : Int) * 64) (by omega) (by omega), e64, Int.toNat_natCast]
  refine One.i ?_ (One.bd (One.i (by omega) (One.bd (One.i ?_ (One.bd ?_)))))
  · refine ⟨by omega, by omega, by omega, by omega, by omega, List.all_eq_true.mpr (fun i hi => ?_)⟩
    have hi := List.mem_range.mp hi
    simp (disch := omega) only [up_ne]
    rw [i1 _ _ (by omega)]
    exact fits_b (hmk i hi).1 (hmk i hi).2
  · refine ⟨by omega, by omega, by omega, by omega, by omega, List.all_eq_true.mpr (fun i hi => ?_)⟩
    have hi := List.mem_range.mp hi
    simp (disch := omega) only [up_ne, cp_ne]
    rw [i1 _ _ (by omega)]
    exact fits_b (hkp i hi).1 (hkp i hi).2
  have em : ∀ (a k : Nat), t2 ≤ a → a ≤ t2 + 11 → d a k = c a k := fun a k h1 h2 => i1 a k (by omega)
  refine One.ret ⟨fun a k z => ?_, ?_, fun m hm => ?_, fun q hq' => ?_, fun k hk => ?_⟩
  · simp (disch := omega) only [up_ne, cp_ne]
    exact i1 a k z
  · simp (disch := omega) only [up_ne, cp_ne, up_same]
    omega
  · simp (disch := omega) only [up_ne, cp_ne]
    by_cases e : m = j
    · subst e
      rw [up_same, hq]
    · rw [up_nj e, up_ne (by omega)]
      exact i3 m (by omega)
  · by_cases e : q = p
    · subst e
      left
      refine ⟨Or.inr rfl, ?_⟩
      unfold CD
      rw [hn, hm]
      simp (disch := omega) only [up_ne, cp_ne, up_same, true_and, em]
      refine ⟨hin.2.2.2.1, fun i hi => ?_, fun i hi => ?_⟩
      · by_cases hin' : i < n
        · rw [cp_at hin']
          simp (disch := omega) only [up_ne]
          rw [em _ _ (by omega) (by omega)]
        · rw [cp_o (by omega)]
          simp (disch := omega) only [up_ne]
          rw [hin.2.2.2.2.2.2.2 i hi]
          have := H.2.2.1 q i hp hi
          by_cases e : c (t2 + 7) (64 * q + i) = 0
          · exact e.symm
          · have := this e
            omega
      · have hi' : i < n := by omega
        constructor
        · rw [cp_at hi']
          simp (disch := omega) only [up_ne, cp_ne]
          rw [em _ _ (by omega) (by omega)]
        · rw [cp_at hi']
          simp (disch := omega) only [up_ne, cp_ne]
          rw [em _ _ (by omega) (by omega)]
    · have nm : ∀ (b i : Nat), i < 64 → ¬ (b = b ∧ 64 * p ≤ 64 * q + i ∧ 64 * q + i < 64 * p + n) := by intro b i hi; omega
      rcases i4 q hq' with ⟨z1, z2⟩ | ⟨z1, z2⟩
      · left
        refine ⟨Or.inl z1, ?_⟩
        unfold CD at *
        simp (disch := omega) only [up_ne, cp_ne, up_nj]
        refine ⟨z2.1, z2.2.1, z2.2.2.1, z2.2.2.2.1, z2.2.2.2.2.1, z2.2.2.2.2.2.1, z2.2.2.2.2.2.2.1, fun i hi => ?_, fun i hi => ?_⟩
        · rw [cp_o (by omega)]
          simp (disch := omega) only [up_ne]
          exact z2.2.2.2.2.2.2.2.1 i hi
        · have := H.2.1 q hq'
          have z3 := z2.2.2.2.2.2.2.2.2 i hi
          constructor
          · rw [cp_o (by omega)]
            simp (disch := omega) only [up_ne, cp_ne]
            exact z3.1
          · rw [cp_o (by omega)]
            simp (disch := omega) only [up_ne, cp_ne]
            exact z3.2
      · right
        refine ⟨fun z => z.elim z1 e, ?_⟩
        unfold IN at *
        simp (disch := omega) only [up_ne, cp_ne, up_nj]
        refine ⟨z2.1, z2.2.1, z2.2.2.1, z2.2.2.2.1, z2.2.2.2.2.1, z2.2.2.2.2.2.1, z2.2.2.2.2.2.2.1, fun i hi => ?_⟩
        rw [cp_o (by omega)]
        simp (disch := omega) only [up_ne]
        exact z2.2.2.2.2.2.2.2 i hi
  · rw [cp_app]
    by_cases e : t + 9 = t + 9 ∧ 64 * p ≤ k ∧ k < 64 * p + n
    · rw [if_pos e]
      simp (disch := omega) only [up_ne, cp_ne]
      rw [em _ _ (by omega) (by omega)]
      exact H.2.2.2.1 _ (by omega)
    · rw [if_neg e]
      simp (disch := omega) only [up_ne, cp_ne]
      exact i5 k hk
theorem e_takeL {t t2 N : Nat} {c : St} (ht : t + 11 < t2 ∨ t2 + 11 < t) (H : UT t2 c) : ∀ (k m : Nat) (d : St) (j : Nat) (S : Nat → Prop), (j : Int) + k = c t2 11 → k < m → CI t t2 c S j d → (∀ p, S p ↔ ∃ i : Nat, i < j ∧ c (t2 + 11) i = p) → One (d_x6_takeAll_6L N t t2 m d (j : Int)) (fun d' _ => CE t t2 c d' ∧ ∀ a k, ¬ (t ≤ a ∧ a ≤ t + 11) → d' a k = c a k) := by
  intro k
  obtain ⟨h1, h9, h3, h4, h5⟩ := H.1
  induction k with
  | zero =>
    intro m d j S hj hm I hS
    obtain ⟨m, rfl⟩ : ∃ m', m = m' + 1 := ⟨m - 1, by omega⟩
    show One (d_x6_takeAll_6 N t t2 (d_x6_takeAll_6L N t t2 m) d j) _
    unfold d_x6_takeAll_6
    have e11 : d t2 11 = c t2 11 := I.1 _ _ (by omega)
    (repeat (first | with_reducible refine One.bd ?_ | (with_reducible refine One.i ?_ ?_; · ((try simp (disch := omega) only [w32i, Int.toNat_natCast, e11]) <;> omega)) | (with_reducible refine One.e ?_ ?_; · ((try simp (disch := omega) only [w32i, Int.toNat_natCast, e11]) <;> omega))))
    obtain ⟨i1, i2, i3, i4, i5⟩ := I
    refine One.ret ⟨⟨by omega, fun m hm => i3 m (by omega), fun p hp => ?_, i5⟩, i1⟩
    rcases i4 p hp with z | ⟨z1, z⟩
    · exact z.2
    · rcases h5 p hp with y | ⟨_, m, y1, y2⟩
      · unfold IN at z
        unfold CD
        rw [y.1, y.2.1, y.2.2.1, y.2.2.2.1, y.2.2.2.2.2.1, y.2.2.2.2.2.2]
        refine ⟨z.1, z.2.1, z.2.2.1, z.2.2.2.1, z.2.2.2.2.1, z.2.2.2.2.2.1, z.2.2.2.2.2.2.1, fun i hi => ?_, fun i hi => by omega⟩
        rw [z.2.2.2.2.2.2.2 i hi]
        have := H.2.2.1 p i hp hi
        by_cases e : c (t2 + 7) (64 * p + i) = 0
        · exact e.symm
        · have := this e
          omega
      · exact absurd ((hS p).mpr ⟨m, by omega, y2⟩) z1
  | succ k ih =>
    intro m d j S hj hm I hS
    obtain ⟨m, rfl⟩ : ∃ m', m = m' + 1 := ⟨m - 1, by omega⟩
    show One (d_x6_takeAll_6 N t t2 (d_x6_takeAll_6L N t t2 m) d j) _
    unfold d_x6_takeAll_6
    have e11 : d t2 11 = c t2 11 := I.1 _ _ (by omega)
    have e12 : d (t2 + 11) j = c (t2 + 11) j := I.1 _ _ (by omega)
    have r3 := h3 j (by omega)
    obtain ⟨p, hp⟩ : ∃ p : Nat, c (t2 + 11) j = p := ⟨(c (t2 + 11) j).toNat, by omega⟩
    (repeat (first | with_reducible refine One.bd ?_ | (with_reducible refine One.i ?_ ?_; · ((try simp (disch := omega) only [w32i, Int.toNat_natCast, e11]) <;> omega)) | (with_reducible refine One.e ?_ ?_; · ((try simp (disch := omega) only [w32i, Int.toNat_natCast, e11]) <;> omega))))
    rw [w32i (x := (j : Int)) (by omega) (by omega), Int.toNat_natCast, e12, hp]
    rw [hp, Int.toNat_natCast] at r3
    refine One.callV (e_takeP ht H I (by omega) (fun z => ?_) (by omega) r3.2.2 hp) (fun d' v q => ?_)
    · obtain ⟨i, y1, y2⟩ := (hS p).mp z
      have := h4 i j (by omega) (by omega) (by omega)
      omega
    · refine One.bd ?_
      refine ih m d' (j + 1) _ (by omega) (by omega) q (fun q' => ?_)
      constructor
      · rintro (z | z)
        · obtain ⟨i, y1, y2⟩ := (hS q').mp z
          exact ⟨i, by omega, y2⟩
        · exact ⟨j, by omega, by rw [z]; exact hp⟩
      · rintro ⟨i, y1, y2⟩
        by_cases e : i = j
        · right
          subst e
          omega
        · exact Or.inl ((hS q').mpr ⟨i, by omega, y2⟩)
theorem e_take {t t2 N : Nat} {c : St} (hN : 200 ≤ N) (ht : t + 11 < t2 ∨ t2 + 11 < t) (H : UT t c) (H2 : UT t2 c) : One (d_x6_takeAll N t t2 c) (fun d' _ => CE t t2 c d' ∧ ∀ a k, ¬ (t ≤ a ∧ a ≤ t + 11) → d' a k = c a k) := by
  unfold d_x6_takeAll
  refine One.callV (e_untell hN H) (fun d v q => ?_)
  obtain ⟨q1, q2, q3, q4⟩ := q
  have hd : UT t2 d := H2.cong (fun a k _ _ => q2 a k (by omega))
  have := H2.1.1
  have := H2.1.2.1
  have e11 : d t2 11 = c t2 11 := q2 _ _ (by omega)
  refine One.mono (e_takeL (c := d) ht hd (c t2 11).toNat N d 0 (fun _ => False) (by omega) (by omega) ⟨fun _ _ _ => rfl, q1.1, fun m hm => by omega, fun p hp => Or.inr ⟨fun h => h, q1.2 p hp⟩, fun k hk => by rw [q4]; exact H.2.2.2.1 k hk⟩ (fun p => ⟨fun h => h.elim, fun ⟨i, h, _⟩ => by omega⟩)) (fun d' v q => ?_)
  refine ⟨?_, fun a k z => (q.2 a k z).trans (q2 a k z)⟩
  have e : ∀ a k, t2 ≤ a → a ≤ t2 + 11 → d a k = c a k := fun a k _ _ => q2 a k (by omega)
  have q := q.1
  unfold CE CD at *
  simp (disch := omega) only [e] at q
  exact q
/-- what holds of a table holds of its copy -/
theorem CE.ts {t t2 : Nat} {T c d r r' : St} (C : CE t t2 c d) (S : TS t2 T c r) (M : MT t2 T c) (er : ∀ a k, 86 ≤ a → a ≤ 93 → a ≠ 88 → ((a = 91 ∨ a = 92 ∨ a = 93) → k < 12288) → (a < 91 → k < 192) → r' a k = r a k) (e8 : ∀ p, p < 192 → r' 88 p = 0) (h4 : ∀ p, p < 192 → c (t2 + 4) p = 0) : TS t T d r' ∧ MT t T d := by
  obtain ⟨c1, c2, c3, c4⟩ := C
  refine ⟨⟨fun p hp => ?_, fun p i hp hi => ?_, fun p hp => ?_, fun p i hp hi => ?_, fun p hp => ?_, c4⟩, ⟨by rw [c1]; exact M.1, by rw [c1]; exact M.2.1, fun m hm => ?_, fun m m' hm hm' he => ?_, fun p hp => ?_⟩⟩
  · have z := c3 p hp
    have y := S.1 p hp
    unfold TP at *
    rw [z.1, z.2.2.1, z.2.2.2.1, er 86 p (by omega) (by omega) (by omega) (by omega) (by omega), er 87 p (by omega) (by omega) (by omega) (by omega) (by omega), e8 p hp]
    exact ⟨y.1, y.2.1, y.2.2.1, y.2.2.2.1, rfl, Or.inl rfl⟩
  · have z := c3 p hp
    have y := S.2.1 p i hp hi
    unfold TM at *
    rw [z.1, z.2.2.2.2.2.2.2.1 i hi, er 91 _ (by omega) (by omega) (by omega) (by omega) (by omega), er 92 _ (by omega) (by omega) (by omega) (by omega) (by omega)]
    refine ⟨y.1, y.2.1, y.2.2.1, fun h => ?_⟩
    rw [(z.2.2.2.2.2.2.2.2 i (y.2.2.1 (by omega))).1]
    exact y.2.2.2 h
  · have hp1 := hp.1
    have z := c3 p hp1
    have y := S.2.2.1 p hp
    have w := S.1 p hp1
    unfold TP at w
    unfold TN NX at *
    rw [z.1, z.2.2.2.1, z.2.2.2.2.1, z.2.2.2.2.2.1, er 89 p (by omega) (by omega) (by omega) (by omega) (by omega), er 90 p (by omega) (by omega) (by omega) (by omega) (by omega)]
    refine ⟨fun _ h => ⟨(y.1 (h4 p hp1) h).1, fun i hi => ?_⟩, y.2⟩
    rw [(z.2.2.2.2.2.2.2.2 i (by omega)).2]
    exact (y.1 (h4 p hp1) h).2 i hi
  · have hp1 := hp.1
    have z := c3 p hp1
    rw [z.1] at hi
    have y := S.2.2.2.1 p i hp hi
    have w := S.1 p hp1
    unfold TP at w
    have k9 := (z.2.2.2.2.2.2.2.2 i hi).2
    have td : ∀ (q : Nat) (x : Int), Td t2 T c q x → Td t T d q x := by
      intro q x h
      obtain ⟨q', a1, a2, a3, a4⟩ := h
      exact ⟨q', a1, a2, a3, by rw [(c3 q' a2).1]; exact a4⟩
    obtain ⟨y1, y2⟩ := y
    unfold KP SO at *
    rw [k9, er 93 _ (by omega) (by omega) (by omega) (by omega) (by omega)]
    obtain ⟨a1, a2, a3, a4, a5, a6, a7, a8⟩ := y2
    exact ⟨y1, fun z => td _ _ (a1 z), fun z => td _ _ (a2 z), fun z => td _ _ (a3 z), fun z y => td _ _ (a4 z y), fun z => td _ _ (a5 z), fun z => td _ _ (a6 z), fun z => ⟨fun y => td _ _ ((a7 z).1 y), fun y => td _ _ ((a7 z).2 y)⟩, a8⟩
  · have z := c3 p hp
    have y := S.2.2.2.2.1 p hp
    unfold HC at *
    rw [z.2.1, y]
    exact cn_congr 64 (fun i hi => (z.2.2.2.2.2.2.2.1 i hi).symm)
  · rw [c1] at hm
    have y := M.2.2.1 m hm
    rw [c2 m hm, (c3 _ (by omega)).2.2.2.2.2.2.1]
    exact y
  · rw [c1] at hm hm'
    rw [c2 m hm, c2 m' hm'] at he
    exact M.2.2.2.1 m m' hm hm' he
  · have z := c3 p hp
    rw [c1, z.1, z.2.1, z.2.2.1, z.2.2.2.1, z.2.2.2.2.1, z.2.2.2.2.2.1, z.2.2.2.2.2.2.1]
    rcases M.2.2.2.2 p hp with y | ⟨y1, y2, m, y3, y4⟩
    · exact Or.inl ⟨y.1, y.2.1, y.2.2.1, y.2.2.2.1, rfl, y.2.2.2.2.2⟩
    · exact Or.inr ⟨y1, y2, m, y3, by rw [c2 m y3]; exact y4⟩
end
