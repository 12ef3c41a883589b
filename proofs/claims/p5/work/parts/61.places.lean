def QT (t : Nat) (T c r : St) (p i : Nat) (c' r' : St) (v : Int) : Prop := TI t T c' r' ∧ Mo t p c c' ∧ Fm r r' ∧ An v ∧ (v = 1 → KP t T c' r' p i ∧ SO t T c' p i ∧ NX t T c' p (i + 1)) ∧ (v ≠ 1 → NX t T c' p i)
theorem AnH.an {v : Int} (h : AnH v) : An v := by
  unfold AnH at h
  unfold An
  omega
theorem NX.no {t : Nat} {T c : St} {p : Nat} {m : Int} (h1 : T 19 p ≠ 4) (h2 : T 19 p ≠ 11) : NX t T c p m := fun z => by omega
theorem KP.no {t : Nat} {T c r : St} {p i : Nat} (h1 : T 19 p ≠ 4) (h2 : T 19 p ≠ 11) (h3 : T 19 p ≠ 7) : KP t T c r p i := ⟨fun z => by omega, fun z => by omega⟩
/-- a PLACE is told, but for KEEP, SIEVE, MERGE -/
theorem L_tell {t N : Nat} {T c r : St} {f : Int} {A Hd P Q : St → Int → Int → Option Rs} (hN : 100 ≤ N) (IHp : AP t T f A P) (IH : AH t T f Hd Q) (H : TI t T c r) {p i : Nat} (hp : VP T p) (hk0 : T 19 p ≠ 0) (hk4 : T 19 p ≠ 4) (hk7 : T 19 p ≠ 7) (hk11 : T 19 p ≠ 11) (hi64 : i < 64) (hf : c 50 2 < f + c 50 3) : Two (d_x4_tellPlace N A Hd t c (p : Int) (i : Int)) (d_x8_tellsPlace N P Q r (p : Int) (i : Int)) (QT t T c r p i) := by
  have hp1 := hp.1
  have w := H.W.2 p hp
  have w1 := w.1
  have k19 := H.ct 19 p (by omega) (by omega)
  have k21 := H.ct 21 p (by omega) (by omega)
  have k24 := H.ct 24 p (by omega) (by omega)
  have k79 := H.rt 79 p (by omega) (by omega)
  have k82 := H.rt 82 p (by omega) (by omega)
  have k84 := H.rt 84 p (by omega) (by omega)
  have hkind : T 19 p = 1 ∨ T 19 p = 2 ∨ T 19 p = 3 ∨ T 19 p = 5 ∨ T 19 p = 6 ∨ T 19 p = 8 ∨ T 19 p = 9 ∨ T 19 p = 10 ∨ T 19 p = 12 ∨ T 19 p = 13 := by omega
  have nx : ∀ (c' : St) (m : Int), NX t T c' p m := fun c' m => NX.no hk4 hk11
  have kp : ∀ (c' r' : St), KP t T c' r' p i := fun c' r' => KP.no hk4 hk11 hk7
  have fin : ∀ (c' r' : St) (v : Int), TI t T c' r' → Mo t 192 c c' → Fm r r' → An v → (v = 1 → SO t T c' p i) → QT t T c r p i c' r' v := fun c' r' v a1 a2 a3 a4 a5 => ⟨a1, a2.any, a3, a4, fun z => ⟨kp _ _, a5 z, nx _ _⟩, fun _ => nx _ _⟩
  unfold d_x4_tellPlace d_x8_tellsPlace
  refine Two.cL e_first ?_
  have hg1 : 0 ≤ w32 (p : Int) ∧ w32 (p : Int) < ((192 : Nat) : Int) := (by ((try simp (disch := omega) only [w32i, Int.toNat_natCast]) <;> omega))
  refine Two.iL hg1 (Two.bdL (Two.iL hg1 (Two.iR hg1 (Two.bdR ?_))))
  rw [w32i (x := (p : Int)) (by omega) (by omega), Int.toNat_natCast, k79, w1.1, k19, k21, w32i (x := T 19 p) (by omega) (by omega), w32i (x := (i : Int)) (by omega) (by omega)]
  rcases hkind with hk | hk | hk | hk | hk | hk | hk | hk | hk | hk <;> rw [hk]
  · -- FROM
    (repeat (first | with_reducible refine Two.bdL ?_ | with_reducible refine Two.bdR ?_ | (with_reducible refine Two.iL ?_ ?_; · ((try simp (disch := omega) only [w32i, Int.toNat_natCast]) <;> omega)) | (with_reducible refine Two.eL ?_ ?_; · ((try simp (disch := omega) only [w32i, Int.toNat_natCast]) <;> omega)) | (with_reducible refine Two.iR ?_ ?_; · ((try simp (disch := omega) only [w32i, Int.toNat_natCast]) <;> omega)) | (with_reducible refine Two.eR ?_ ?_; · ((try simp (disch := omega) only [w32i, Int.toNat_natCast]) <;> omega))))
    refine Two.ret rfl (fin _ _ _ H Mo.refl Fm.refl (by unfold An; omega) (fun _ => ?_))
    exact ⟨fun z => by omega, fun z => by omega, fun z => by omega, fun z => by omega, fun z => by omega, fun z => by omega, fun z => by omega, fun z => by omega⟩
  · -- LIST
    have n1 := w.2.2.2.2.1 hk
    have n2 := n1.1
    have n3 := n1.2.1
    by_cases hl : (i : Int) < T 24 p
    · (repeat (first | with_reducible refine Two.bdL ?_ | with_reducible refine Two.bdR ?_ | (with_reducible refine Two.iL ?_ ?_; · ((try simp (disch := omega) only [w32i, Int.toNat_natCast]) <;> omega)) | (with_reducible refine Two.eL ?_ ?_; · ((try simp (disch := omega) only [w32i, Int.toNat_natCast]) <;> omega)) | (with_reducible refine Two.iR ?_ ?_; · ((try simp (disch := omega) only [w32i, Int.toNat_natCast]) <;> omega)) | (with_reducible refine Two.eR ?_ ?_; · ((try simp (disch := omega) only [w32i, Int.toNat_natCast]) <;> omega))))
      refine Two.ret rfl (fin _ _ _ H Mo.refl Fm.refl (by unfold An; omega) (fun _ => ?_))
      exact ⟨fun z => by omega, fun z => by omega, fun z => by omega, fun z => by omega, fun z => by omega, fun z => by omega, fun z => by omega, fun z => hl⟩
    · (repeat (first | with_reducible refine Two.bdL ?_ | with_reducible refine Two.bdR ?_ | (with_reducible refine Two.iL ?_ ?_; · ((try simp (disch := omega) only [w32i, Int.toNat_natCast]) <;> omega)) | (with_reducible refine Two.eL ?_ ?_; · ((try simp (disch := omega) only [w32i, Int.toNat_natCast]) <;> omega)) | (with_reducible refine Two.iR ?_ ?_; · ((try simp (disch := omega) only [w32i, Int.toNat_natCast]) <;> omega)) | (with_reducible refine Two.eR ?_ ?_; · ((try simp (disch := omega) only [w32i, Int.toNat_natCast]) <;> omega))))
      exact Two.ret rfl (fin _ _ _ H Mo.refl Fm.refl (by unfold An; omega) (fun z => by omega))
  · -- MAP
    have n3 := (w.2.2.2.2.2.2.2.2.2.2.2.1 (by omega)).1
    (repeat (first | with_reducible refine Two.bdL ?_ | with_reducible refine Two.bdR ?_ | (with_reducible refine Two.iL ?_ ?_; · ((try simp (disch := omega) only [w32i, Int.toNat_natCast]) <;> omega)) | (with_reducible refine Two.eL ?_ ?_; · ((try simp (disch := omega) only [w32i, Int.toNat_natCast]) <;> omega)) | (with_reducible refine Two.iR ?_ ?_; · ((try simp (disch := omega) only [w32i, Int.toNat_natCast]) <;> omega)) | (with_reducible refine Two.eR ?_ ?_; · ((try simp (disch := omega) only [w32i, Int.toNat_natCast]) <;> omega)) | unfold d_x8_tellsPlace_84 | unfold d_x8_tellsPlace_106 | unfold d_x8_tellsPlace_159))
    refine Two.call (IHp c r (p + 1) _ _ _ _ i H n3 rfl (by omega) rfl rfl (by omega) (by omega) hf) (fun c1 r1 v1 q1 => ?_)
    obtain ⟨H1, M1, F1, A1, V1⟩ := q1
    have g1 := A1.rng
    by_cases hv : v1 = 1
    · (repeat (first | with_reducible refine Two.bdL ?_ | with_reducible refine Two.bdR ?_ | (with_reducible refine Two.iL ?_ ?_; · ((try simp (disch := omega) only [w32i, Int.toNat_natCast]) <;> omega)) | (with_reducible refine Two.eL ?_ ?_; · ((try simp (disch := omega) only [w32i, Int.toNat_natCast]) <;> omega)) | (with_reducible refine Two.iR ?_ ?_; · ((try simp (disch := omega) only [w32i, Int.toNat_natCast]) <;> omega)) | (with_reducible refine Two.eR ?_ ?_; · ((try simp (disch := omega) only [w32i, Int.toNat_natCast]) <;> omega))))
      refine Two.ret hv.symm (fin _ _ _ H1 M1 F1 A1 (fun z => ?_))
      exact ⟨fun _ => V1 z, fun z => by omega, fun z => by omega, fun z => by omega, fun z => by omega, fun z => by omega, fun z => by omega, fun z => by omega⟩
    · (repeat (first | with_reducible refine Two.bdL ?_ | with_reducible refine Two.bdR ?_ | (with_reducible refine Two.iL ?_ ?_; · ((try simp (disch := omega) only [w32i, Int.toNat_natCast]) <;> omega)) | (with_reducible refine Two.eL ?_ ?_; · ((try simp (disch := omega) only [w32i, Int.toNat_natCast]) <;> omega)) | (with_reducible refine Two.iR ?_ ?_; · ((try simp (disch := omega) only [w32i, Int.toNat_natCast]) <;> omega)) | (with_reducible refine Two.eR ?_ ?_; · ((try simp (disch := omega) only [w32i, Int.toNat_natCast]) <;> omega))))
      exact Two.ret rfl (fin _ _ _ H1 M1 F1 A1 (fun z => absurd z hv))
  · -- WHILE
    have n1 := w.2.1 (by omega)
    have n10 := w.2.2.2.2.2.2.2.2.2.1 (by omega)
    have n3 := (w.2.2.2.2.2.2.2.2.2.2.2.1 (by omega)).1
    (repeat (first | with_reducible refine Two.bdL ?_ | with_reducible refine Two.bdR ?_ | (with_reducible refine Two.iL ?_ ?_; · ((try simp (disch := omega) only [w32i, Int.toNat_natCast]) <;> omega)) | (with_reducible refine Two.eL ?_ ?_; · ((try simp (disch := omega) only [w32i, Int.toNat_natCast]) <;> omega)) | (with_reducible refine Two.iR ?_ ?_; · ((try simp (disch := omega) only [w32i, Int.toNat_natCast]) <;> omega)) | (with_reducible refine Two.eR ?_ ?_; · ((try simp (disch := omega) only [w32i, Int.toNat_natCast]) <;> omega)) | unfold d_x8_tellsPlace_84 | unfold d_x8_tellsPlace_106 | unfold d_x8_tellsPlace_159))
    refine Two.call (IHp c r (p + 1) _ _ _ _ i H n3 rfl (by omega) rfl rfl (by omega) (by omega) hf) (fun c1 r1 v1 q1 => ?_)
    obtain ⟨H1, M1, F1, A1, V1⟩ := q1
    have g1 := A1.rng
    by_cases hv : v1 = 1
    · (repeat (first | with_reducible refine Two.bdL ?_ | with_reducible refine Two.bdR ?_ | (with_reducible refine Two.iL ?_ ?_; · ((try simp (disch := omega) only [w32i, Int.toNat_natCast]) <;> omega)) | (with_reducible refine Two.eL ?_ ?_; · ((try simp (disch := omega) only [w32i, Int.toNat_natCast]) <;> omega)) | (with_reducible refine Two.iR ?_ ?_; · ((try simp (disch := omega) only [w32i, Int.toNat_natCast]) <;> omega)) | (with_reducible refine Two.eR ?_ ?_; · ((try simp (disch := omega) only [w32i, Int.toNat_natCast]) <;> omega))))
      refine Two.call (IH c1 r1 (p + 1) _ _ _ _ i H1 n3 rfl (by omega) rfl rfl (V1 hv) (M1.f hf)) (fun c2 r2 v2 q2 => ?_)
      obtain ⟨H2, M2, F2, A2, V2⟩ := q2
      have g2 := A2.rng
      by_cases hv2 : v2 = 1
      · have j20 := H2.ct 20 p (by omega) (by omega)
        have j80 := H2.rt 80 p (by omega) (by omega)
        have j82 := H2.rt 82 p (by omega) (by omega)
        (repeat (first | with_reducible refine Two.bdL ?_ | with_reducible refine Two.bdR ?_ | (with_reducible refine Two.iL ?_ ?_; · ((try simp (disch := omega) only [w32i, Int.toNat_natCast]) <;> omega)) | (with_reducible refine Two.eL ?_ ?_; · ((try simp (disch := omega) only [w32i, Int.toNat_natCast]) <;> omega)) | (with_reducible refine Two.iR ?_ ?_; · ((try simp (disch := omega) only [w32i, Int.toNat_natCast]) <;> omega)) | (with_reducible refine Two.eR ?_ ?_; · ((try simp (disch := omega) only [w32i, Int.toNat_natCast]) <;> omega)) | unfold d_x4_tellPlace_230))
        rw [w32i (x := (p : Int)) (by omega) (by omega), Int.toNat_natCast, j20]
        obtain ⟨v3, e1, e2, e3⟩ := J_pass (c := c2) (r := r2) (N := N) (a := c2 50 4) (a' := r2 77 38) hp1 n10 n1.2 (by omega) (by omega) (V2 hv2).symm
        refine Two.cL e1 ?_
        refine Two.cR e2 ?_
        refine Two.ret rfl (fin _ _ _ H2 (M1.trans M2) (F1.trans F2) (by unfold An; omega) (fun z => ?_))
        exact ⟨fun _ => (V1 hv).mo M2.pl, fun z => by omega, fun z => by omega, fun z => by omega, fun z => by omega, fun z => by omega, fun z => by omega, fun z => by omega⟩
      · (repeat (first | with_reducible refine Two.bdL ?_ | with_reducible refine Two.bdR ?_ | (with_reducible refine Two.iL ?_ ?_; · ((try simp (disch := omega) only [w32i, Int.toNat_natCast]) <;> omega)) | (with_reducible refine Two.eL ?_ ?_; · ((try simp (disch := omega) only [w32i, Int.toNat_natCast]) <;> omega)) | (with_reducible refine Two.iR ?_ ?_; · ((try simp (disch := omega) only [w32i, Int.toNat_natCast]) <;> omega)) | (with_reducible refine Two.eR ?_ ?_; · ((try simp (disch := omega) only [w32i, Int.toNat_natCast]) <;> omega)) | unfold d_x4_tellPlace_230))
        exact Two.ret rfl (fin _ _ _ H2 (M1.trans M2) (F1.trans F2) A2.an (fun z => absurd z hv2))
    · (repeat (first | with_reducible refine Two.bdL ?_ | with_reducible refine Two.bdR ?_ | (with_reducible refine Two.iL ?_ ?_; · ((try simp (disch := omega) only [w32i, Int.toNat_natCast]) <;> omega)) | (with_reducible refine Two.eL ?_ ?_; · ((try simp (disch := omega) only [w32i, Int.toNat_natCast]) <;> omega)) | (with_reducible refine Two.iR ?_ ?_; · ((try simp (disch := omega) only [w32i, Int.toNat_natCast]) <;> omega)) | (with_reducible refine Two.eR ?_ ?_; · ((try simp (disch := omega) only [w32i, Int.toNat_natCast]) <;> omega)) | unfold d_x4_tellPlace_230))
      exact Two.ret rfl (fin _ _ _ H1 M1 F1 A1 (fun z => absurd z hv))
  · -- ZIP
    have n3 := (w.2.2.2.2.2.2.2.2.2.2.2.1 (by omega)).1
    have n6 := (w.2.2.2.2.2.2.2.2.2.2.2.2 (by omega)).1
    (repeat (first | with_reducible refine Two.bdL ?_ | with_reducible refine Two.bdR ?_ | (with_reducible refine Two.iL ?_ ?_; · ((try simp (disch := omega) only [w32i, Int.toNat_natCast]) <;> omega)) | (with_reducible refine Two.eL ?_ ?_; · ((try simp (disch := omega) only [w32i, Int.toNat_natCast]) <;> omega)) | (with_reducible refine Two.iR ?_ ?_; · ((try simp (disch := omega) only [w32i, Int.toNat_natCast]) <;> omega)) | (with_reducible refine Two.eR ?_ ?_; · ((try simp (disch := omega) only [w32i, Int.toNat_natCast]) <;> omega)) | unfold d_x8_tellsPlace_84 | unfold d_x8_tellsPlace_106 | unfold d_x8_tellsPlace_159))
    refine Two.call (IHp c r (p + 1) _ _ _ _ i H n3 rfl (by omega) rfl rfl (by omega) (by omega) hf) (fun c1 r1 v1 q1 => ?_)
    obtain ⟨H1, M1, F1, A1, V1⟩ := q1
    have g1 := A1.rng
    by_cases hv : v1 = 1
    · (repeat (first | with_reducible refine Two.bdL ?_ | with_reducible refine Two.bdR ?_ | (with_reducible refine Two.iL ?_ ?_; · ((try simp (disch := omega) only [w32i, Int.toNat_natCast]) <;> omega)) | (with_reducible refine Two.eL ?_ ?_; · ((try simp (disch := omega) only [w32i, Int.toNat_natCast]) <;> omega)) | (with_reducible refine Two.iR ?_ ?_; · ((try simp (disch := omega) only [w32i, Int.toNat_natCast]) <;> omega)) | (with_reducible refine Two.eR ?_ ?_; · ((try simp (disch := omega) only [w32i, Int.toNat_natCast]) <;> omega))))
      refine Two.cL (e_second H1.ct H1.W n3) ?_
      refine Two.cR (e_other H1.rt H1.W n3) ?_
      refine Two.tail (Two.mono (IHp c1 r1 _ _ _ _ _ i H1 n6 rfl rfl rfl rfl (by omega) (by omega) (M1.f hf)) (fun c2 r2 v2 q2 => ?_))
      obtain ⟨H2, M2, F2, A2, V2⟩ := q2
      refine fin _ _ _ H2 (M1.trans M2) (F1.trans F2) A2 (fun z => ?_)
      exact ⟨fun _ => (V1 hv).mo M2.pl, fun _ => V2 z, fun z => by omega, fun z => by omega, fun z => by omega, fun z => by omega, fun z => by omega, fun z => by omega⟩
    · (repeat (first | with_reducible refine Two.bdL ?_ | with_reducible refine Two.bdR ?_ | (with_reducible refine Two.iL ?_ ?_; · ((try simp (disch := omega) only [w32i, Int.toNat_natCast]) <;> omega)) | (with_reducible refine Two.eL ?_ ?_; · ((try simp (disch := omega) only [w32i, Int.toNat_natCast]) <;> omega)) | (with_reducible refine Two.iR ?_ ?_; · ((try simp (disch := omega) only [w32i, Int.toNat_natCast]) <;> omega)) | (with_reducible refine Two.eR ?_ ?_; · ((try simp (disch := omega) only [w32i, Int.toNat_natCast]) <;> omega))))
      exact Two.ret rfl (fin _ _ _ H1 M1 F1 A1 (fun z => absurd z hv))
  · -- TAKE
    have n1 := w.2.1 (by omega)
    have n7 := w.2.2.2.2.2.2.1 (by omega)
    have n3 := (w.2.2.2.2.2.2.2.2.2.2.2.1 (by omega)).1
    have e82 : w64 (r 82 p) = T 21 p := by rw [k82, n1.1, w64_id (by omega)]
    by_cases hl : (i : Int) < T 21 p
    · (repeat (first | with_reducible refine Two.bdL ?_ | with_reducible refine Two.bdR ?_ | (with_reducible refine Two.iL ?_ ?_; · ((try simp (disch := omega) only [w32i, Int.toNat_natCast, e82]) <;> omega)) | (with_reducible refine Two.eL ?_ ?_; · ((try simp (disch := omega) only [w32i, Int.toNat_natCast, e82]) <;> omega)) | (with_reducible refine Two.iR ?_ ?_; · ((try simp (disch := omega) only [w32i, Int.toNat_natCast, e82]) <;> omega)) | (with_reducible refine Two.eR ?_ ?_; · ((try simp (disch := omega) only [w32i, Int.toNat_natCast, e82]) <;> omega)) | unfold d_x8_tellsPlace_84 | unfold d_x8_tellsPlace_106 | unfold d_x8_tellsPlace_159))
      refine Two.call (IHp c r (p + 1) _ _ _ _ i H n3 rfl (by omega) rfl rfl (by omega) (by omega) hf) (fun c1 r1 v1 q1 => ?_)
      obtain ⟨H1, M1, F1, A1, V1⟩ := q1
      have g1 := A1.rng
      by_cases hv : v1 = 1
      · (repeat (first | with_reducible refine Two.bdL ?_ | with_reducible refine Two.bdR ?_ | (with_reducible refine Two.iL ?_ ?_; · ((try simp (disch := omega) only [w32i, Int.toNat_natCast]) <;> omega)) | (with_reducible refine Two.eL ?_ ?_; · ((try simp (disch := omega) only [w32i, Int.toNat_natCast]) <;> omega)) | (with_reducible refine Two.iR ?_ ?_; · ((try simp (disch := omega) only [w32i, Int.toNat_natCast]) <;> omega)) | (with_reducible refine Two.eR ?_ ?_; · ((try simp (disch := omega) only [w32i, Int.toNat_natCast]) <;> omega))))
        refine Two.ret hv.symm (fin _ _ _ H1 M1 F1 A1 (fun z => ?_))
        exact ⟨fun _ => V1 z, fun z => by omega, fun z => by omega, fun z => by omega, fun z => by omega, fun z => by omega, fun z => by omega, fun z => by omega⟩
      · (repeat (first | with_reducible refine Two.bdL ?_ | with_reducible refine Two.bdR ?_ | (with_reducible refine Two.iL ?_ ?_; · ((try simp (disch := omega) only [w32i, Int.toNat_natCast]) <;> omega)) | (with_reducible refine Two.eL ?_ ?_; · ((try simp (disch := omega) only [w32i, Int.toNat_natCast]) <;> omega)) | (with_reducible refine Two.iR ?_ ?_; · ((try simp (disch := omega) only [w32i, Int.toNat_natCast]) <;> omega)) | (with_reducible refine Two.eR ?_ ?_; · ((try simp (disch := omega) only [w32i, Int.toNat_natCast]) <;> omega))))
        exact Two.ret rfl (fin _ _ _ H1 M1 F1 A1 (fun z => absurd z hv))
    · (repeat (first | with_reducible refine Two.bdL ?_ | with_reducible refine Two.bdR ?_ | (with_reducible refine Two.iL ?_ ?_; · ((try simp (disch := omega) only [w32i, Int.toNat_natCast, e82]) <;> omega)) | (with_reducible refine Two.eL ?_ ?_; · ((try simp (disch := omega) only [w32i, Int.toNat_natCast, e82]) <;> omega)) | (with_reducible refine Two.iR ?_ ?_; · ((try simp (disch := omega) only [w32i, Int.toNat_natCast, e82]) <;> omega)) | (with_reducible refine Two.eR ?_ ?_; · ((try simp (disch := omega) only [w32i, Int.toNat_natCast, e82]) <;> omega)) | unfold d_x8_tellsPlace_94))
      exact Two.ret rfl (fin _ _ _ H Mo.refl Fm.refl (by unfold An; omega) (fun z => by omega))
  · -- DROP
    have n1 := w.2.1 (by omega)
    have n7 := w.2.2.2.2.2.2.1 (by omega)
    have n3 := (w.2.2.2.2.2.2.2.2.2.2.2.1 (by omega)).1
    (repeat (first | with_reducible refine Two.bdL ?_ | with_reducible refine Two.bdR ?_ | (with_reducible refine Two.iL ?_ ?_; · ((try simp (disch := omega) only [w32i, Int.toNat_natCast]) <;> omega)) | (with_reducible refine Two.eL ?_ ?_; · ((try simp (disch := omega) only [w32i, Int.toNat_natCast]) <;> omega)) | (with_reducible refine Two.iR ?_ ?_; · ((try simp (disch := omega) only [w32i, Int.toNat_natCast]) <;> omega)) | (with_reducible refine Two.eR ?_ ?_; · ((try simp (disch := omega) only [w32i, Int.toNat_natCast]) <;> omega)) | unfold d_x8_tellsPlace_84 | unfold d_x8_tellsPlace_106 | unfold d_x8_tellsPlace_159))
    refine Two.call (IHp c r (p + 1) _ _ _ _ (i + T 21 p) H n3 rfl (by omega) rfl (by ((try simp (disch := omega) only [w32i, Int.toNat_natCast]) <;> omega)) (by omega) (by omega) hf) (fun c1 r1 v1 q1 => ?_)
    obtain ⟨H1, M1, F1, A1, V1⟩ := q1
    have g1 := A1.rng
    by_cases hv : v1 = 1
    · (repeat (first | with_reducible refine Two.bdL ?_ | with_reducible refine Two.bdR ?_ | (with_reducible refine Two.iL ?_ ?_; · ((try simp (disch := omega) only [w32i, Int.toNat_natCast]) <;> omega)) | (with_reducible refine Two.eL ?_ ?_; · ((try simp (disch := omega) only [w32i, Int.toNat_natCast]) <;> omega)) | (with_reducible refine Two.iR ?_ ?_; · ((try simp (disch := omega) only [w32i, Int.toNat_natCast]) <;> omega)) | (with_reducible refine Two.eR ?_ ?_; · ((try simp (disch := omega) only [w32i, Int.toNat_natCast]) <;> omega))))
      refine Two.ret hv.symm (fin _ _ _ H1 M1 F1 A1 (fun z => ?_))
      exact ⟨fun z => by omega, fun z => by omega, fun _ => V1 z, fun z => by omega, fun z => by omega, fun z => by omega, fun z => by omega, fun z => by omega⟩
    · (repeat (first | with_reducible refine Two.bdL ?_ | with_reducible refine Two.bdR ?_ | (with_reducible refine Two.iL ?_ ?_; · ((try simp (disch := omega) only [w32i, Int.toNat_natCast]) <;> omega)) | (with_reducible refine Two.eL ?_ ?_; · ((try simp (disch := omega) only [w32i, Int.toNat_natCast]) <;> omega)) | (with_reducible refine Two.iR ?_ ?_; · ((try simp (disch := omega) only [w32i, Int.toNat_natCast]) <;> omega)) | (with_reducible refine Two.eR ?_ ?_; · ((try simp (disch := omega) only [w32i, Int.toNat_natCast]) <;> omega))))
      exact Two.ret rfl (fin _ _ _ H1 M1 F1 A1 (fun z => absurd z hv))
  · -- SCAN
    have n3 := (w.2.2.2.2.2.2.2.2.2.2.2.1 (by omega)).1
    (repeat (first | with_reducible refine Two.bdL ?_ | with_reducible refine Two.bdR ?_ | (with_reducible refine Two.iL ?_ ?_; · ((try simp (disch := omega) only [w32i, Int.toNat_natCast]) <;> omega)) | (with_reducible refine Two.eL ?_ ?_; · ((try simp (disch := omega) only [w32i, Int.toNat_natCast]) <;> omega)) | (with_reducible refine Two.iR ?_ ?_; · ((try simp (disch := omega) only [w32i, Int.toNat_natCast]) <;> omega)) | (with_reducible refine Two.eR ?_ ?_; · ((try simp (disch := omega) only [w32i, Int.toNat_natCast]) <;> omega)) | unfold d_x8_tellsPlace_84 | unfold d_x8_tellsPlace_106 | unfold d_x8_tellsPlace_159))
    refine Two.call (IHp c r (p + 1) _ _ _ _ i H n3 rfl (by omega) rfl rfl (by omega) (by omega) hf) (fun c1 r1 v1 q1 => ?_)
    obtain ⟨H1, M1, F1, A1, V1⟩ := q1
    have g1 := A1.rng
    by_cases hv : v1 = 1
    · (repeat (first | with_reducible refine Two.bdL ?_ | with_reducible refine Two.bdR ?_ | (with_reducible refine Two.iL ?_ ?_; · ((try simp (disch := omega) only [w32i, Int.toNat_natCast]) <;> omega)) | (with_reducible refine Two.eL ?_ ?_; · ((try simp (disch := omega) only [w32i, Int.toNat_natCast]) <;> omega)) | (with_reducible refine Two.iR ?_ ?_; · ((try simp (disch := omega) only [w32i, Int.toNat_natCast]) <;> omega)) | (with_reducible refine Two.eR ?_ ?_; · ((try simp (disch := omega) only [w32i, Int.toNat_natCast]) <;> omega))))
      refine Two.ret hv.symm (fin _ _ _ H1 M1 F1 A1 (fun z => ?_))
      exact ⟨fun _ => V1 z, fun z => by omega, fun z => by omega, fun z => by omega, fun z => by omega, fun z => by omega, fun z => by omega, fun z => by omega⟩
    · (repeat (first | with_reducible refine Two.bdL ?_ | with_reducible refine Two.bdR ?_ | (with_reducible refine Two.iL ?_ ?_; · ((try simp (disch := omega) only [w32i, Int.toNat_natCast]) <;> omega)) | (with_reducible refine Two.eL ?_ ?_; · ((try simp (disch := omega) only [w32i, Int.toNat_natCast]) <;> omega)) | (with_reducible refine Two.iR ?_ ?_; · ((try simp (disch := omega) only [w32i, Int.toNat_natCast]) <;> omega)) | (with_reducible refine Two.eR ?_ ?_; · ((try simp (disch := omega) only [w32i, Int.toNat_natCast]) <;> omega))))
      exact Two.ret rfl (fin _ _ _ H1 M1 F1 A1 (fun z => absurd z hv))
  · -- CONS
    have n3 := (w.2.2.2.2.2.2.2.2.2.2.2.1 (by omega)).1
    by_cases hi0 : i = 0
    · (repeat (first | with_reducible refine Two.bdL ?_ | with_reducible refine Two.bdR ?_ | (with_reducible refine Two.iL ?_ ?_; · ((try simp (disch := omega) only [w32i, Int.toNat_natCast]) <;> omega)) | (with_reducible refine Two.eL ?_ ?_; · ((try simp (disch := omega) only [w32i, Int.toNat_natCast]) <;> omega)) | (with_reducible refine Two.iR ?_ ?_; · ((try simp (disch := omega) only [w32i, Int.toNat_natCast]) <;> omega)) | (with_reducible refine Two.eR ?_ ?_; · ((try simp (disch := omega) only [w32i, Int.toNat_natCast]) <;> omega)) | unfold d_x8_tellsPlace_84 | unfold d_x8_tellsPlace_94))
      refine Two.ret rfl (fin _ _ _ H Mo.refl Fm.refl (by unfold An; omega) (fun _ => ?_))
      exact ⟨fun z => by omega, fun z => by omega, fun z => by omega, fun _ z => by omega, fun z => by omega, fun z => by omega, fun z => by omega, fun z => by omega⟩
    · (repeat (first | with_reducible refine Two.bdL ?_ | with_reducible refine Two.bdR ?_ | (with_reducible refine Two.iL ?_ ?_; · ((try simp (disch := omega) only [w32i, Int.toNat_natCast]) <;> omega)) | (with_reducible refine Two.eL ?_ ?_; · ((try simp (disch := omega) only [w32i, Int.toNat_natCast]) <;> omega)) | (with_reducible refine Two.iR ?_ ?_; · ((try simp (disch := omega) only [w32i, Int.toNat_natCast]) <;> omega)) | (with_reducible refine Two.eR ?_ ?_; · ((try simp (disch := omega) only [w32i, Int.toNat_natCast]) <;> omega)) | unfold d_x8_tellsPlace_84 | unfold d_x8_tellsPlace_106 | unfold d_x8_tellsPlace_159))
      refine Two.call (IHp c r (p + 1) _ _ _ _ ((i : Int) - 1) H n3 rfl (by omega) rfl rfl (by omega) (by omega) hf) (fun c1 r1 v1 q1 => ?_)
      obtain ⟨H1, M1, F1, A1, V1⟩ := q1
      have g1 := A1.rng
      by_cases hv : v1 = 1
      · (repeat (first | with_reducible refine Two.bdL ?_ | with_reducible refine Two.bdR ?_ | (with_reducible refine Two.iL ?_ ?_; · ((try simp (disch := omega) only [w32i, Int.toNat_natCast]) <;> omega)) | (with_reducible refine Two.eL ?_ ?_; · ((try simp (disch := omega) only [w32i, Int.toNat_natCast]) <;> omega)) | (with_reducible refine Two.iR ?_ ?_; · ((try simp (disch := omega) only [w32i, Int.toNat_natCast]) <;> omega)) | (with_reducible refine Two.eR ?_ ?_; · ((try simp (disch := omega) only [w32i, Int.toNat_natCast]) <;> omega))))
        refine Two.ret hv.symm (fin _ _ _ H1 M1 F1 A1 (fun z => ?_))
        exact ⟨fun z => by omega, fun z => by omega, fun z => by omega, fun _ _ => V1 z, fun z => by omega, fun z => by omega, fun z => by omega, fun z => by omega⟩
      · (repeat (first | with_reducible refine Two.bdL ?_ | with_reducible refine Two.bdR ?_ | (with_reducible refine Two.iL ?_ ?_; · ((try simp (disch := omega) only [w32i, Int.toNat_natCast]) <;> omega)) | (with_reducible refine Two.eL ?_ ?_; · ((try simp (disch := omega) only [w32i, Int.toNat_natCast]) <;> omega)) | (with_reducible refine Two.iR ?_ ?_; · ((try simp (disch := omega) only [w32i, Int.toNat_natCast]) <;> omega)) | (with_reducible refine Two.eR ?_ ?_; · ((try simp (disch := omega) only [w32i, Int.toNat_natCast]) <;> omega))))
        exact Two.ret rfl (fin _ _ _ H1 M1 F1 A1 (fun z => absurd z hv))
  · -- CUT
    have n1 := w.2.1 (by omega)
    have n8 := w.2.2.2.2.2.2.2.1 hk
    have n3 := (w.2.2.2.2.2.2.2.2.2.2.2.1 (by omega)).1
    have e1 : 1 ≤ T 21 p * ((i : Int) + 1) := by
      have := Int.mul_le_mul n8.1 (show (1 : Int) ≤ (i : Int) + 1 by omega) (by omega) (by omega)
      omega
    have e2 : T 21 p * ((i : Int) + 1) ≤ 9 * 64 := Int.mul_le_mul n8.2 (by omega) (by omega) (by omega)
    (repeat (first | with_reducible refine Two.bdL ?_ | with_reducible refine Two.bdR ?_ | (with_reducible refine Two.iL ?_ ?_; · ((try simp (disch := omega) only [w32i, Int.toNat_natCast]) <;> omega)) | (with_reducible refine Two.eL ?_ ?_; · ((try simp (disch := omega) only [w32i, Int.toNat_natCast]) <;> omega)) | (with_reducible refine Two.iR ?_ ?_; · ((try simp (disch := omega) only [w32i, Int.toNat_natCast]) <;> omega)) | (with_reducible refine Two.eR ?_ ?_; · ((try simp (disch := omega) only [w32i, Int.toNat_natCast]) <;> omega)) | unfold d_x8_tellsPlace_84 | unfold d_x8_tellsPlace_106 | unfold d_x8_tellsPlace_159))
    rw [w32i (x := (p : Int)) (by omega) (by omega), Int.toNat_natCast, k82, n1.1]
    refine Two.call (IHp c r (p + 1) _ _ _ _ (T 21 p * ((i : Int) + 1) - 1) H n3 rfl (by omega) rfl rfl (by omega) (by omega) hf) (fun c1 r1 v1 q1 => ?_)
    obtain ⟨H1, M1, F1, A1, V1⟩ := q1
    have g1 := A1.rng
    by_cases hv : v1 = 1
    · (repeat (first | with_reducible refine Two.bdL ?_ | with_reducible refine Two.bdR ?_ | (with_reducible refine Two.iL ?_ ?_; · ((try simp (disch := omega) only [w32i, Int.toNat_natCast]) <;> omega)) | (with_reducible refine Two.eL ?_ ?_; · ((try simp (disch := omega) only [w32i, Int.toNat_natCast]) <;> omega)) | (with_reducible refine Two.iR ?_ ?_; · ((try simp (disch := omega) only [w32i, Int.toNat_natCast]) <;> omega)) | (with_reducible refine Two.eR ?_ ?_; · ((try simp (disch := omega) only [w32i, Int.toNat_natCast]) <;> omega))))
      refine Two.ret hv.symm (fin _ _ _ H1 M1 F1 A1 (fun z => ?_))
      exact ⟨fun z => by omega, fun z => by omega, fun z => by omega, fun z => by omega, fun _ => V1 z, fun z => by omega, fun z => by omega, fun z => by omega⟩
    · (repeat (first | with_reducible refine Two.bdL ?_ | with_reducible refine Two.bdR ?_ | (with_reducible refine Two.iL ?_ ?_; · ((try simp (disch := omega) only [w32i, Int.toNat_natCast]) <;> omega)) | (with_reducible refine Two.eL ?_ ?_; · ((try simp (disch := omega) only [w32i, Int.toNat_natCast]) <;> omega)) | (with_reducible refine Two.iR ?_ ?_; · ((try simp (disch := omega) only [w32i, Int.toNat_natCast]) <;> omega)) | (with_reducible refine Two.eR ?_ ?_; · ((try simp (disch := omega) only [w32i, Int.toNat_natCast]) <;> omega))))
      exact Two.ret rfl (fin _ _ _ H1 M1 F1 A1 (fun z => absurd z hv))
