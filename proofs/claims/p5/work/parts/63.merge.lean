theorem L_merge {t N : Nat} {T c r : St} {f : Int} {A Hd P Q : St → Int → Int → Option Rs} (h2 : T2 t) (IHp : AP t T f A P) (IH : AH t T f Hd Q) (H : TI t T c r) {p i : Nat} (hp : VP T p) (hk : T 19 p = 7) (hi : i < 64) (hpl : c (t + 1) p = i) (htl : c (t + 4) p = 1) (hf : c 50 2 < f + c 50 3) : Two (d_x4_mergePlace N A Hd t c (p : Int) (i : Int)) (d_x8_tellsPlace N P Q r (p : Int) (i : Int)) (QT t T c r p i) := by
  have hp1 := hp.1
  have w := H.W.2 p hp
  have w1 := w.1
  have n3 := (w.2.2.2.2.2.2.2.2.2.2.2.1 (by omega)).1
  have n6 := (w.2.2.2.2.2.2.2.2.2.2.2.2 (by omega)).1
  have hR1 : c 50 1 = (t : Int) := H.R.1
  have k79 := H.rt 79 p (by omega) (by omega)
  have hN7 := (H.N hp).2 hk
  have nx : ∀ (c' : St) (m : Int), NX t T c' p m := fun c' m => NX.no (by omega) (by omega)
  have hg1 : 0 ≤ w32 (p : Int) ∧ w32 (p : Int) < ((192 : Nat) : Int) := (by ((try simp (disch := omega) only [w32i, Int.toNat_natCast]) <;> omega))
  have e64 : ((p : Int) * 64 + (i : Int)).toNat = 64 * p + i := by omega
  have e64' : (64 * (p : Int) + (i : Int)).toNat = 64 * p + i := by omega
  have hg : 0 ≤ w32 ((p : Int) * 64 + (i : Int)) ∧ w32 ((p : Int) * 64 + (i : Int)) < ((12288 : Nat) : Int) := (by ((try simp (disch := omega) only [w32i, Int.toNat_natCast]) <;> omega))
  have hg' : 0 ≤ w32 (64 * (p : Int) + (i : Int)) ∧ w32 (64 * (p : Int) + (i : Int)) < ((12288 : Nat) : Int) := (by ((try simp (disch := omega) only [w32i, Int.toNat_natCast]) <;> omega))
  obtain ⟨x, hx⟩ : ∃ x, x = c (t + 5) p := ⟨_, rfl⟩
  obtain ⟨y, hy⟩ : ∃ y, y = c (t + 6) p := ⟨_, rfl⟩
  unfold d_x8_tellsPlace
  (repeat (first | with_reducible refine Two.bdR ?_ | (with_reducible refine Two.iR ?_ ?_; · ((try simp (disch := omega) only [w32i, Int.toNat_natCast]) <;> omega)) | (with_reducible refine Two.eR ?_ ?_; · ((try simp (disch := omega) only [w32i, Int.toNat_natCast]) <;> omega))))
  refine Two.tailR ?_
  unfold d_x4_mergePlace d_x8_merges
  refine Two.cL e_first ?_
  refine Two.cL (e_second H.ct H.W n3) ?_
  refine Two.iL hR1 (Two.iL hg1 (Two.bdL (Two.iL hR1 (Two.iL hg1 (Two.bdL ?_)))))
  refine Two.iR hg1 (Two.bdR (Two.iR hg1 (Two.bdR ?_)))
  refine Two.cR (e_other H.rt H.W n3) ?_
  rw [w32i (x := (p : Int)) (by omega) (by omega), Int.toNat_natCast, hN7.1, hN7.2.1, ← hx, ← hy]
  rw [← hx, ← hy] at hN7
  have hx0 := hN7.2.2
  clear hN7
  refine Two.call (IHp c r (p + 1) _ _ _ _ x H n3 rfl (by omega) rfl rfl (by omega) (by omega) hf) (fun c1 r1 v1 q1 => ?_)
  obtain ⟨H1, M1, F1, A1, V1⟩ := q1
  have g1 := A1.rng
  by_cases ha : v1 = 1 ∨ v1 = 0
  case neg =>
    have hneg : v1 < 0 := by
      unfold An at A1
      omega
    (repeat (first | with_reducible refine Two.bdL ?_ | with_reducible refine Two.bdR ?_ | (with_reducible refine Two.iL ?_ ?_; · ((try simp (disch := omega) only [w32i, Int.toNat_natCast]) <;> omega)) | (with_reducible refine Two.eL ?_ ?_; · ((try simp (disch := omega) only [w32i, Int.toNat_natCast]) <;> omega)) | (with_reducible refine Two.iR ?_ ?_; · ((try simp (disch := omega) only [w32i, Int.toNat_natCast]) <;> omega)) | (with_reducible refine Two.eR ?_ ?_; · ((try simp (disch := omega) only [w32i, Int.toNat_natCast]) <;> omega))))
    exact Two.ret rfl ⟨H1, M1.any, F1, A1, fun z => absurd (Or.inl z) ha, fun _ => nx _ _⟩
  case pos =>
  have to64 : ∀ (B : Option Rs), Two (d_x4_mergePlace_64 N A Hd t c1 (p : Int) (i : Int) ((p + 1 : Nat) : Int) ((p + 1 + (T 23 (p + 1)).toNat : Nat) : Int) x y v1) B (QT t T c r p i) → Two (if w32 v1 = 1 then d_x4_mergePlace_64 N A Hd t c1 (p : Int) (i : Int) ((p + 1 : Nat) : Int) ((p + 1 + (T 23 (p + 1)).toNat : Nat) : Int) x y v1 else if w32 v1 = 0 then d_x4_mergePlace_64 N A Hd t c1 (p : Int) (i : Int) ((p + 1 : Nat) : Int) ((p + 1 + (T 23 (p + 1)).toNat : Nat) : Int) x y v1 else some (c1, v1)) B (QT t T c r p i) := by
    intro B hB
    rcases ha with z | z
    · exact Two.iL (by ((try simp (disch := omega) only [w32i, Int.toNat_natCast]) <;> omega)) hB
    · exact Two.eL (by ((try simp (disch := omega) only [w32i, Int.toNat_natCast]) <;> omega)) (Two.iL (by ((try simp (disch := omega) only [w32i, Int.toNat_natCast]) <;> omega)) hB)
  refine to64 _ ?_
  unfold d_x4_mergePlace_64
  (repeat (first | with_reducible refine Two.bdR ?_ | (with_reducible refine Two.iR ?_ ?_; · ((try simp (disch := omega) only [w32i, Int.toNat_natCast]) <;> omega)) | (with_reducible refine Two.eR ?_ ?_; · ((try simp (disch := omega) only [w32i, Int.toNat_natCast]) <;> omega))))
  refine Two.call (IHp c1 r1 _ _ _ _ _ y H1 n6 rfl rfl rfl rfl (by omega) (by omega) (M1.f hf)) (fun c2 r2 v2 q2 => ?_)
  obtain ⟨H2, M2, F2, A2, V2⟩ := q2
  have g2 := A2.rng
  have M02 := M1.trans M2
  have F02 := F1.trans F2
  by_cases hb : v2 = 1 ∨ v2 = 0
  case neg =>
    have hneg : v2 < 0 := by
      unfold An at A2
      omega
    (repeat (first | with_reducible refine Two.bdL ?_ | with_reducible refine Two.bdR ?_ | (with_reducible refine Two.iL ?_ ?_; · ((try simp (disch := omega) only [w32i, Int.toNat_natCast]) <;> omega)) | (with_reducible refine Two.eL ?_ ?_; · ((try simp (disch := omega) only [w32i, Int.toNat_natCast]) <;> omega)) | (with_reducible refine Two.iR ?_ ?_; · ((try simp (disch := omega) only [w32i, Int.toNat_natCast]) <;> omega)) | (with_reducible refine Two.eR ?_ ?_; · ((try simp (disch := omega) only [w32i, Int.toNat_natCast]) <;> omega))))
    exact Two.ret rfl ⟨H2, M02.any, F02, A2, fun z => absurd (Or.inl z) hb, fun _ => nx _ _⟩
  case pos =>
  -- what is written at the end
  have fin : ∀ (c3 r3 : St) (fi se wh : Int), TI t T c3 r3 → Mo t 192 c c3 → Fm r r3 → (fi = 1 ∧ se = 0 ∧ wh = 0 ∧ Td t T c3 (p + 1) x) ∨ (fi = 0 ∧ se = 1 ∧ wh = 1 ∧ Td t T c3 (p + 1 + (T 23 (p + 1)).toNat) y) ∨ (fi = 1 ∧ se = 1 ∧ wh = 2 ∧ Td t T c3 (p + 1) x ∧ Td t T c3 (p + 1 + (T 23 (p + 1)).toNat) y) → Two (d_x4_mergePlace_211 N A Hd t c3 (p : Int) (i : Int) x y fi se) (d_x8_merges_172 N P Q r3 (p : Int) (i : Int) x y wh) (QT t T c r p i) := by
    intro c3 r3 fi se wh H3 M3 F3 hc
    have hR3 : c3 50 1 = (t : Int) := H3.R.1
    have htl3 : c3 (t + 4) p = 1 := by rw [(M3.2.2.2.1 p hp1).2.1]; exact htl
    have mm := (M3.2.2.2.1 p hp1).2.2.2 htl
    have hpl3 : c3 (t + 1) p = i := by rw [mm.1]; exact hpl
    have hx3 : c3 (t + 5) p = x := by rw [(mm.2.2 (by omega)).1, hx]
    have hy3 : c3 (t + 6) p = y := by rw [(mm.2.2 (by omega)).2, hy]
    have lt : ∀ (q : Nat) (z : Int), Td t T c3 q z → z ≤ 63 := by
      intro q z hz
      obtain ⟨q', a1, a2, a3, a4⟩ := hz
      have := H3.P a2
      unfold TP at this
      omega
    have u50 : ∀ (s : St) (a j : Nat) (v : Int), a ≠ 50 → s 50 1 = (t : Int) → up s a j v 50 1 = (t : Int) := by
      intro s a j v ha hs
      rw [up_ne (Ne.symm ha)]
      exact hs
    have t9 : t + 9 ≠ 50 := by unfold T2 at h2; omega
    have t5 : t + 5 ≠ 50 := by unfold T2 at h2; omega
    unfold d_x4_mergePlace_211 d_x8_merges_172
    rcases hc with ⟨rfl, rfl, rfl, hd⟩ | ⟨rfl, rfl, rfl, hd⟩ | ⟨rfl, rfl, rfl, hd, hd'⟩
    · have l1 := lt _ _ hd
      refine Two.iL hR3 (Two.eL (by decide) ?_)
      refine Two.eR (by decide) ?_
      unfold d_x4_mergePlace_239 d_x8_merges_200
      refine Two.iL hg (Two.bdL (Two.eL (by decide) (Two.iL (u50 _ _ _ _ t9 hR3) (Two.iL hg1 (Two.bdL ?_)))))
      refine Two.iR hg' (Two.bdR (Two.eR (by decide) ?_))
      unfold d_x4_mergePlace_259 d_x8_merges_219
      refine Two.iL (by decide) ?_
      refine Two.iR hg1 (Two.bdR (Two.iR (by decide) ?_))
      unfold d_x8_merges_239
      refine Two.iR hg1 (Two.bdR ?_)
      rw [w32i (x := (p : Int) * 64 + (i : Int)) (by omega) (by omega), e64, w8i (x := x) (by omega) (by omega), w8i (x := x) (by omega) (by omega), w32i (x := 64 * (p : Int) + (i : Int)) (by omega) (by omega), e64', w32i (x := (p : Int)) (by omega) (by omega), Int.toNat_natCast]
      have e9 : up (up c3 (t + 9) (64 * p + i) x) (t + 5) p (x + 1) (t + 9) (64 * p + i) = x := by rw [up_ne (by omega), up_same]
      have e5 : up (up c3 (t + 9) (64 * p + i) x) (t + 5) p (x + 1) (t + 5) p = x + 1 := up_same
      have e6 : up (up c3 (t + 9) (64 * p + i) x) (t + 5) p (x + 1) (t + 6) p = y := by rw [up_ne (by omega), up_ne (by omega)]; exact hy3
      have f93 : up (up (up r3 93 (64 * p + i) (2 * x)) 89 p (x + 1)) 90 p y 93 (64 * p + i) = 2 * x := by rw [up_ne (by omega), up_ne (by omega), up_same]
      have f89 : up (up (up r3 93 (64 * p + i) (2 * x)) 89 p (x + 1)) 90 p y 89 p = x + 1 := by rw [up_ne (by omega), up_same]
      have f90 : up (up (up r3 93 (64 * p + i) (2 * x)) 89 p (x + 1)) 90 p y 90 p = y := up_same
      have u := U_kept (c' := up (up c3 (t + 9) (64 * p + i) x) (t + 5) p (x + 1)) (r' := up (up (up r3 93 (64 * p + i) (2 * x)) 89 p (x + 1)) 90 p y) h2 H3 hp1 hi htl3 hpl3 (fun a k z1 z2 z3 => by rw [up_app, if_neg z2, up_app, if_neg z1]) (fun a k z1 z2 z3 => by rw [up_app, if_neg z3, up_app, if_neg z2, up_app, if_neg z1]) (by rw [e9]; omega) (fun _ => by rw [e5, e6, f89, f90]; omega)
      refine Two.ret rfl ⟨u.1, M3.any.trans u.2.1, F3.trans u.2.2, Or.inl rfl, fun _ => ⟨⟨fun z => by omega, fun _ => ?_⟩, ?_, nx _ _⟩, fun _ => nx _ _⟩
      · rw [e9, f93]; left; omega
      · refine ⟨fun z => by omega, fun z => by omega, fun z => by omega, fun z => by omega, fun z => by omega, fun z => by omega, fun _ => ?_, fun z => by omega⟩
        rw [e9]
        exact ⟨fun _ => hd.mo (fun q hq => by rw [up_ne (by omega), up_ne (by omega)]; exact Int.le_refl _), fun z => by omega⟩
    · have l1 := lt _ _ hd
      refine Two.iL hR3 (Two.iL (by decide) ?_)
      refine Two.iR (by decide) ?_
      unfold d_x4_mergePlace_239 d_x8_merges_200
      refine Two.iL hg (Two.bdL (Two.iL (by decide) ?_))
      refine Two.iR hg' (Two.bdR (Two.iR (by decide) ?_))
      unfold d_x4_mergePlace_259 d_x8_merges_219
      refine Two.eL (by decide) (Two.iL (u50 _ _ _ _ t9 hR3) (Two.iL hg1 (Two.bdL ?_)))
      refine Two.iR hg1 (Two.bdR (Two.eR (by decide) ?_))
      unfold d_x8_merges_239
      refine Two.iR hg1 (Two.bdR ?_)
      rw [w32i (x := (p : Int) * 64 + (i : Int)) (by omega) (by omega), e64, w8i (x := 64 + y) (by omega) (by omega), w8i (x := 64 + y) (by omega) (by omega), w32i (x := 64 * (p : Int) + (i : Int)) (by omega) (by omega), e64', w32i (x := (p : Int)) (by omega) (by omega), Int.toNat_natCast]
      have e9 : up (up c3 (t + 9) (64 * p + i) (64 + y)) (t + 6) p (y + 1) (t + 9) (64 * p + i) = 64 + y := by rw [up_ne (by omega), up_same]
      have e6 : up (up c3 (t + 9) (64 * p + i) (64 + y)) (t + 6) p (y + 1) (t + 6) p = y + 1 := up_same
      have e5 : up (up c3 (t + 9) (64 * p + i) (64 + y)) (t + 6) p (y + 1) (t + 5) p = x := by rw [up_ne (by omega), up_ne (by omega)]; exact hx3
      have f93 : up (up (up r3 93 (64 * p + i) (2 * y + 1)) 89 p x) 90 p (y + 1) 93 (64 * p + i) = 2 * y + 1 := by rw [up_ne (by omega), up_ne (by omega), up_same]
      have f89 : up (up (up r3 93 (64 * p + i) (2 * y + 1)) 89 p x) 90 p (y + 1) 89 p = x := by rw [up_ne (by omega), up_same]
      have f90 : up (up (up r3 93 (64 * p + i) (2 * y + 1)) 89 p x) 90 p (y + 1) 90 p = y + 1 := up_same
      have u := U_kept (c' := up (up c3 (t + 9) (64 * p + i) (64 + y)) (t + 6) p (y + 1)) (r' := up (up (up r3 93 (64 * p + i) (2 * y + 1)) 89 p x) 90 p (y + 1)) h2 H3 hp1 hi htl3 hpl3 (fun a k z1 z2 z3 => by rw [up_app, if_neg z3, up_app, if_neg z1]) (fun a k z1 z2 z3 => by rw [up_app, if_neg z3, up_app, if_neg z2, up_app, if_neg z1]) (by rw [e9]; omega) (fun _ => by rw [e5, e6, f89, f90]; omega)
      refine Two.ret rfl ⟨u.1, M3.any.trans u.2.1, F3.trans u.2.2, Or.inl rfl, fun _ => ⟨⟨fun z => by omega, fun _ => ?_⟩, ?_, nx _ _⟩, fun _ => nx _ _⟩
      · rw [e9, f93]; right; omega
      · refine ⟨fun z => by omega, fun z => by omega, fun z => by omega, fun z => by omega, fun z => by omega, fun z => by omega, fun _ => ?_, fun z => by omega⟩
        rw [e9, show 64 + y - 64 = y by omega]
        exact ⟨fun z => by omega, fun _ => hd.mo (fun q hq => by rw [up_ne (by omega), up_ne (by omega)]; exact Int.le_refl _)⟩
    · have l1 := lt _ _ hd
      have l2 := lt _ _ hd'
      refine Two.iL hR3 (Two.eL (by decide) ?_)
      refine Two.eR (by decide) ?_
      unfold d_x4_mergePlace_239 d_x8_merges_200
      refine Two.iL hg (Two.bdL (Two.eL (by decide) (Two.iL (u50 _ _ _ _ t9 hR3) (Two.iL hg1 (Two.bdL ?_)))))
      refine Two.iR hg' (Two.bdR (Two.eR (by decide) ?_))
      unfold d_x4_mergePlace_259 d_x8_merges_219
      refine Two.eL (by decide) (Two.iL (u50 _ _ _ _ t5 (u50 _ _ _ _ t9 hR3)) (Two.iL hg1 (Two.bdL ?_)))
      refine Two.iR hg1 (Two.bdR (Two.eR (by decide) ?_))
      unfold d_x8_merges_239
      refine Two.iR hg1 (Two.bdR ?_)
      rw [w32i (x := (p : Int) * 64 + (i : Int)) (by omega) (by omega), e64, w8i (x := x) (by omega) (by omega), w8i (x := x) (by omega) (by omega), w32i (x := 64 * (p : Int) + (i : Int)) (by omega) (by omega), e64', w32i (x := (p : Int)) (by omega) (by omega), Int.toNat_natCast]
      have e9 : up (up (up c3 (t + 9) (64 * p + i) x) (t + 5) p (x + 1)) (t + 6) p (y + 1) (t + 9) (64 * p + i) = x := by rw [up_ne (by omega), up_ne (by omega), up_same]
      have e5 : up (up (up c3 (t + 9) (64 * p + i) x) (t + 5) p (x + 1)) (t + 6) p (y + 1) (t + 5) p = x + 1 := by rw [up_ne (by omega), up_same]
      have e6 : up (up (up c3 (t + 9) (64 * p + i) x) (t + 5) p (x + 1)) (t + 6) p (y + 1) (t + 6) p = y + 1 := up_same
      have f93 : up (up (up r3 93 (64 * p + i) (2 * x)) 89 p (x + 1)) 90 p (y + 1) 93 (64 * p + i) = 2 * x := by rw [up_ne (by omega), up_ne (by omega), up_same]
      have f89 : up (up (up r3 93 (64 * p + i) (2 * x)) 89 p (x + 1)) 90 p (y + 1) 89 p = x + 1 := by rw [up_ne (by omega), up_same]
      have f90 : up (up (up r3 93 (64 * p + i) (2 * x)) 89 p (x + 1)) 90 p (y + 1) 90 p = y + 1 := up_same
      have u := U_kept (c' := up (up (up c3 (t + 9) (64 * p + i) x) (t + 5) p (x + 1)) (t + 6) p (y + 1)) (r' := up (up (up r3 93 (64 * p + i) (2 * x)) 89 p (x + 1)) 90 p (y + 1)) h2 H3 hp1 hi htl3 hpl3 (fun a k z1 z2 z3 => by rw [up_app, if_neg z3, up_app, if_neg z2, up_app, if_neg z1]) (fun a k z1 z2 z3 => by rw [up_app, if_neg z3, up_app, if_neg z2, up_app, if_neg z1]) (by rw [e9]; omega) (fun _ => by rw [e5, e6, f89, f90]; omega)
      refine Two.ret rfl ⟨u.1, M3.any.trans u.2.1, F3.trans u.2.2, Or.inl rfl, fun _ => ⟨⟨fun z => by omega, fun _ => ?_⟩, ?_, nx _ _⟩, fun _ => nx _ _⟩
      · rw [e9, f93]; left; omega
      · refine ⟨fun z => by omega, fun z => by omega, fun z => by omega, fun z => by omega, fun z => by omega, fun z => by omega, fun _ => ?_, fun z => by omega⟩
        rw [e9]
        exact ⟨fun _ => hd.mo (fun q hq => by rw [up_ne (by omega), up_ne (by omega), up_ne (by omega)]; exact Int.le_refl _), fun z => by omega⟩
  rcases ha with ha | ha
  · rcases hb with hb | hb
    · -- both are there
      subst ha hb
      have d1 := (V1 rfl).mo M2.pl
      have d2 := V2 rfl
      (repeat (first | with_reducible refine Two.bdL ?_ | with_reducible refine Two.bdR ?_ | (with_reducible refine Two.iL ?_ ?_; · ((try simp (disch := omega) only [w32i, Int.toNat_natCast]) <;> omega)) | (with_reducible refine Two.eL ?_ ?_; · ((try simp (disch := omega) only [w32i, Int.toNat_natCast]) <;> omega)) | (with_reducible refine Two.iR ?_ ?_; · ((try simp (disch := omega) only [w32i, Int.toNat_natCast]) <;> omega)) | (with_reducible refine Two.eR ?_ ?_; · ((try simp (disch := omega) only [w32i, Int.toNat_natCast]) <;> omega)) | unfold d_x4_mergePlace_88 | unfold d_x4_mergePlace_100 | unfold d_x4_mergePlace_110 | unfold d_x4_mergePlace_122 | unfold d_x8_merges_70 | unfold d_x8_merges_89))
      refine Two.call (IH c2 r2 (p + 1) _ _ _ _ x H2 n3 rfl (by omega) rfl rfl d1 (M2.f (M1.f hf))) (fun c3 r3 v3 q3 => ?_)
      obtain ⟨H3, M3, F3, A3, V3⟩ := q3
      have g3 := A3.rng
      by_cases hv3 : v3 = 1
      · (repeat (first | with_reducible refine Two.bdL ?_ | with_reducible refine Two.bdR ?_ | (with_reducible refine Two.iL ?_ ?_; · ((try simp (disch := omega) only [w32i, Int.toNat_natCast]) <;> omega)) | (with_reducible refine Two.eL ?_ ?_; · ((try simp (disch := omega) only [w32i, Int.toNat_natCast]) <;> omega)) | (with_reducible refine Two.iR ?_ ?_; · ((try simp (disch := omega) only [w32i, Int.toNat_natCast]) <;> omega)) | (with_reducible refine Two.eR ?_ ?_; · ((try simp (disch := omega) only [w32i, Int.toNat_natCast]) <;> omega))))
        refine Two.call (IH c3 r3 _ _ _ _ _ y H3 n6 rfl rfl rfl rfl (d2.mo M3.pl) (M3.f (M2.f (M1.f hf)))) (fun c4 r4 v4 q4 => ?_)
        obtain ⟨H4, M4, F4, A4, V4⟩ := q4
        have g4 := A4.rng
        have M04 := M02.trans (M3.trans M4)
        have F04 := F02.trans (F3.trans F4)
        have d1 := d1.mo (M3.trans M4).pl
        have d2 := d2.mo (M3.trans M4).pl
        by_cases hv4 : v4 = 1
        · rw [← V3 hv3, ← V4 hv4]
          (repeat (first | with_reducible refine Two.bdL ?_ | with_reducible refine Two.bdR ?_ | (with_reducible refine Two.iL ?_ ?_; · ((try simp (disch := omega) only [w32i, Int.toNat_natCast]) <;> omega)) | (with_reducible refine Two.eL ?_ ?_; · ((try simp (disch := omega) only [w32i, Int.toNat_natCast]) <;> omega)) | (with_reducible refine Two.iR ?_ ?_; · ((try simp (disch := omega) only [w32i, Int.toNat_natCast]) <;> omega)) | (with_reducible refine Two.eR ?_ ?_; · ((try simp (disch := omega) only [w32i, Int.toNat_natCast]) <;> omega))))
          by_cases l1 : w64 (c4 50 4) < w64 (c3 50 4)
          · refine Two.iL l1 (Two.eR (by omega) (Two.iR l1 ?_))
            unfold d_x4_mergePlace_192 d_x4_mergePlace_209 d_x8_merges_170
            refine Two.eL (by omega) ?_
            exact fin c4 r4 0 1 1 H4 M04 F04 (Or.inr (Or.inl ⟨rfl, rfl, rfl, d2⟩))
          · refine Two.eL l1 ?_
            unfold d_x4_mergePlace_192 d_x4_mergePlace_209 d_x8_merges_170
            by_cases l2 : w64 (c3 50 4) < w64 (c4 50 4)
            · refine Two.iL l2 (Two.iR l2 ?_)
              exact fin c4 r4 1 0 0 H4 M04 F04 (Or.inl ⟨rfl, rfl, rfl, d1⟩)
            · refine Two.eL l2 (Two.eR l2 (Two.eR l1 ?_))
              exact fin c4 r4 1 1 2 H4 M04 F04 (Or.inr (Or.inr ⟨rfl, rfl, rfl, d1, d2⟩))
        · (repeat (first | with_reducible refine Two.bdL ?_ | with_reducible refine Two.bdR ?_ | (with_reducible refine Two.iL ?_ ?_; · ((try simp (disch := omega) only [w32i, Int.toNat_natCast]) <;> omega)) | (with_reducible refine Two.eL ?_ ?_; · ((try simp (disch := omega) only [w32i, Int.toNat_natCast]) <;> omega)) | (with_reducible refine Two.iR ?_ ?_; · ((try simp (disch := omega) only [w32i, Int.toNat_natCast]) <;> omega)) | (with_reducible refine Two.eR ?_ ?_; · ((try simp (disch := omega) only [w32i, Int.toNat_natCast]) <;> omega))))
          exact Two.ret rfl ⟨H4, M04.any, F04, A4.an, fun z => absurd z hv4, fun _ => nx _ _⟩
      · (repeat (first | with_reducible refine Two.bdL ?_ | with_reducible refine Two.bdR ?_ | (with_reducible refine Two.iL ?_ ?_; · ((try simp (disch := omega) only [w32i, Int.toNat_natCast]) <;> omega)) | (with_reducible refine Two.eL ?_ ?_; · ((try simp (disch := omega) only [w32i, Int.toNat_natCast]) <;> omega)) | (with_reducible refine Two.iR ?_ ?_; · ((try simp (disch := omega) only [w32i, Int.toNat_natCast]) <;> omega)) | (with_reducible refine Two.eR ?_ ?_; · ((try simp (disch := omega) only [w32i, Int.toNat_natCast]) <;> omega))))
        exact Two.ret rfl ⟨H3, (M02.trans M3).any, F02.trans F3, A3.an, fun z => absurd z hv3, fun _ => nx _ _⟩
    · subst ha hb
      (repeat (first | with_reducible refine Two.bdL ?_ | with_reducible refine Two.bdR ?_ | (with_reducible refine Two.iL ?_ ?_; · ((try simp (disch := omega) only [w32i, Int.toNat_natCast]) <;> omega)) | (with_reducible refine Two.eL ?_ ?_; · ((try simp (disch := omega) only [w32i, Int.toNat_natCast]) <;> omega)) | (with_reducible refine Two.iR ?_ ?_; · ((try simp (disch := omega) only [w32i, Int.toNat_natCast]) <;> omega)) | (with_reducible refine Two.eR ?_ ?_; · ((try simp (disch := omega) only [w32i, Int.toNat_natCast]) <;> omega)) | unfold d_x4_mergePlace_88 | unfold d_x4_mergePlace_100 | unfold d_x4_mergePlace_110 | unfold d_x4_mergePlace_122 | unfold d_x8_merges_70 | unfold d_x8_merges_89))
      exact fin c2 r2 1 0 0 H2 M02 F02 (Or.inl ⟨rfl, rfl, rfl, (V1 rfl).mo M2.pl⟩)
  · rcases hb with hb | hb
    · subst ha hb
      (repeat (first | with_reducible refine Two.bdL ?_ | with_reducible refine Two.bdR ?_ | (with_reducible refine Two.iL ?_ ?_; · ((try simp (disch := omega) only [w32i, Int.toNat_natCast]) <;> omega)) | (with_reducible refine Two.eL ?_ ?_; · ((try simp (disch := omega) only [w32i, Int.toNat_natCast]) <;> omega)) | (with_reducible refine Two.iR ?_ ?_; · ((try simp (disch := omega) only [w32i, Int.toNat_natCast]) <;> omega)) | (with_reducible refine Two.eR ?_ ?_; · ((try simp (disch := omega) only [w32i, Int.toNat_natCast]) <;> omega)) | unfold d_x4_mergePlace_88 | unfold d_x4_mergePlace_100 | unfold d_x4_mergePlace_110 | unfold d_x4_mergePlace_122 | unfold d_x8_merges_70 | unfold d_x8_merges_89))
      exact fin c2 r2 0 1 1 H2 M02 F02 (Or.inr (Or.inl ⟨rfl, rfl, rfl, V2 rfl⟩))
    · subst ha hb
      (repeat (first | with_reducible refine Two.bdL ?_ | with_reducible refine Two.bdR ?_ | (with_reducible refine Two.iL ?_ ?_; · ((try simp (disch := omega) only [w32i, Int.toNat_natCast]) <;> omega)) | (with_reducible refine Two.eL ?_ ?_; · ((try simp (disch := omega) only [w32i, Int.toNat_natCast]) <;> omega)) | (with_reducible refine Two.iR ?_ ?_; · ((try simp (disch := omega) only [w32i, Int.toNat_natCast]) <;> omega)) | (with_reducible refine Two.eR ?_ ?_; · ((try simp (disch := omega) only [w32i, Int.toNat_natCast]) <;> omega)) | unfold d_x4_mergePlace_88))
      exact Two.ret rfl ⟨H2, M02.any, F02, A2, fun z => by omega, fun _ => nx _ _⟩
