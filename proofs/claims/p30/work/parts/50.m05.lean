section
/-- the numbers of a CUT, one behind another -/
theorem L_cut {t N : Nat} {T : St} {f : Int} {A Hd P Q : St → Int → Int → Option Rs} (h2 : T2 t) (IH : AH t T f Hd Q) {p i : Nat} (hp : VP T (p + 1)) {num : Int} (hn : 1 ≤ num ∧ num ≤ 9) (hi : i < 64) (c0 r0 : St) (h0 : Td t T c0 (p + 1) (num * (i + 1) - 1)) :
    ∀ (k : Nat) (m : Nat) (c r : St) (j : Int) (sum : Int), (k : Int) + j = num → 0 ≤ j → k < m → TI t T c r → Mo t 192 c0 c → Fm r0 r → c 50 2 < f + c 50 3 →
      Two (d_x4_tellHead_429L N A Hd t m c (i : Int) ((p + 1 : Nat) : Int) num sum j) (d_x8_cuts_14L N P Q m r (p : Int) (i : Int) num sum j) (QH t T c0 r0) := by
  intro k
  induction k with
  | zero =>
    intro m c r j sum hk hj hm H M F hf
    obtain ⟨m, rfl⟩ : ∃ m', m = m' + 1 := ⟨m - 1, by omega⟩
    show Two (d_x4_tellHead_429 N A Hd t (d_x4_tellHead_429L N A Hd t m) c _ _ num sum j) (d_x8_cuts_14 N P Q (d_x8_cuts_14L N P Q m) r _ _ num sum j) _
    unfold d_x4_tellHead_429 d_x8_cuts_14
    refine Two.eL (by ((try simp (disch := omega) only [w32i, Int.toNat_natCast]) <;> omega)) ?_
    refine Two.eR (by ((try simp (disch := omega) only [w32i, Int.toNat_natCast]) <;> omega)) ?_
    refine Two.cL rfl ?_
    refine Two.bdR ?_
    exact Two.ret rfl ((QH.val h2 H rfl).after M F)
  | succ k ih =>
    intro m c r j sum hk hj hm H M F hf
    obtain ⟨m, rfl⟩ : ∃ m', m = m' + 1 := ⟨m - 1, by omega⟩
    show Two (d_x4_tellHead_429 N A Hd t (d_x4_tellHead_429L N A Hd t m) c _ _ num sum j) (d_x8_cuts_14 N P Q (d_x8_cuts_14L N P Q m) r _ _ num sum j) _
    unfold d_x4_tellHead_429 d_x8_cuts_14
    refine Two.iL (by ((try simp (disch := omega) only [w32i, Int.toNat_natCast]) <;> omega)) ?_
    refine Two.iR (by ((try simp (disch := omega) only [w32i, Int.toNat_natCast]) <;> omega)) ?_
    have htd : Td t T c (p + 1) (num * i + j) := by
      obtain ⟨q, a1, a2, a3, a4⟩ := h0
      have := M.pl q a2
      have e : num * ((i : Int) + 1) - 1 = num * i + num - 1 := by rw [Int.mul_add, Int.mul_one]
      have e2 : 0 ≤ num * (i : Int) := Int.mul_nonneg (by omega) (by omega)
      exact ⟨q, a1, a2, by omega, by omega⟩
    refine Two.call (IH c r (p + 1) _ _ _ _ (num * i + j) H hp rfl (by omega) rfl rfl htd hf) (fun c1 r1 v1 q1 => ?_)
    obtain ⟨H1, M1, F1, A1, V1⟩ := q1
    have g1 := A1.rng
    by_cases hv : v1 = 1
    · refine Two.iL (by ((try simp (disch := omega) only [w32i, Int.toNat_natCast]) <;> omega)) ?_
      refine Two.iR (by ((try simp (disch := omega) only [w32i, Int.toNat_natCast]) <;> omega)) ?_
      refine Two.bdL (Two.bdL (Two.bdR (Two.bdR ?_)))
      rw [V1 hv]
      exact ih m c1 r1 (j + 1) _ (by omega) (by omega) (by omega) H1 (M.trans M1) (F.trans F1) (M1.f hf)
    · refine Two.eL (by ((try simp (disch := omega) only [w32i, Int.toNat_natCast]) <;> omega)) ?_
      refine Two.eR (by ((try simp (disch := omega) only [w32i, Int.toNat_natCast]) <;> omega)) ?_
      exact Two.ret rfl ⟨H1, M.trans M1, F.trans F1, A1, fun z => absurd z hv⟩
/-- a HEAD is told -/
theorem L_head {t N : Nat} {T c r : St} {f : Int} {A Hd P Q : St → Int → Int → Option Rs} (h2 : T2 t) (hN : 100 ≤ N) (IH : AH t T f Hd Q) (H : TI t T c r) {p i : Nat} (hp : VP T p) (hk0 : T 19 p ≠ 0) (hi : (i : Int) < c (t + 1) p) (hf : c 50 2 < f + c 50 3) : Two (d_x4_tellHead N A Hd t c (p : Int) (i : Int)) (d_x8_tellsHead N P Q r (p : Int) (i : Int)) (QH t T c r) := by
  have hp1 := hp.1
  have w := H.W.2 p hp
  have w1 := w.1
  have k19 := H.ct 19 p (by omega) (by omega)
  have k20 := H.ct 20 p (by omega) (by omega)
  have k21 := H.ct 21 p (by omega) (by omega)
  have k22 := H.ct 22 p (by omega) (by omega)
  have k79 := H.rt 79 p (by omega) (by omega)
  have k80 := H.rt 80 p (by omega) (by omega)
  have k82 := H.rt 82 p (by omega) (by omega)
  have k83 := H.rt 83 p (by omega) (by omega)
  have hR1 : c 50 1 = (t : Int) := H.R.1
  have hi64 : i < 64 := by
    have hpl := H.P hp1
    unfold TP at hpl
    omega
  have e64 : ((p : Int) * 64 + (i : Int)).toNat = 64 * p + i := by omega
  have e64' : (64 * (p : Int) + (i : Int)).toNat = 64 * p + i := by omega
  have e8 : ((p : Int) * 8 + (i : Int)).toNat = 8 * p + i := by omega
  have e8' : (8 * (p : Int) + (i : Int)).toNat = 8 * p + i := by omega
  obtain ⟨hK, hS⟩ := H.K hp hi
  have hB := H.B (64 * p + i) (by omega)
  have hkind : T 19 p = 1 ∨ T 19 p = 2 ∨ T 19 p = 3 ∨ T 19 p = 4 ∨ T 19 p = 5 ∨ T 19 p = 6 ∨ T 19 p = 7 ∨ T 19 p = 8 ∨ T 19 p = 9 ∨ T 19 p = 10 ∨ T 19 p = 11 ∨ T 19 p = 12 ∨ T 19 p = 13 := by omega
  have k19' : c 19 p = T 79 p := by omega
  unfold d_x4_tellHead d_x8_tellsHead
  refine Two.cL e_first ?_
  have hg : 0 ≤ w32 ((p : Int) * 64 + (i : Int)) ∧ w32 ((p : Int) * 64 + (i : Int)) < ((12288 : Nat) : Int) := (by ((try simp (disch := omega) only [w32i, Int.toNat_natCast]) <;> omega))
  have hg1 : 0 ≤ w32 (p : Int) ∧ w32 (p : Int) < ((192 : Nat) : Int) := (by ((try simp (disch := omega) only [w32i, Int.toNat_natCast]) <;> omega))
  refine Two.iL hg1 (Two.bdL (Two.iL hR1 (Two.iL hg (Two.bdL (Two.iL hg1 (Two.iR hg1 (Two.bdR ?_)))))))
  rw [w32i (x := (p : Int)) (by omega) (by omega), Int.toNat_natCast, w32i (x := (p : Int) * 64 + (i : Int)) (by omega) (by omega), e64, k79, w1.1, k19, k21, w32i (x := T 19 p) (by omega) (by omega), w32i (x := (i : Int)) (by omega) (by omega)]
  rcases hkind with hk | hk | hk | hk | hk | hk | hk | hk | hk | hk | hk | hk | hk <;> rw [hk]
  · -- FROM
    have n1 := w.2.1 (by omega)
    have n2 := w.2.2.2.1 hk
    (repeat (first | with_reducible refine Two.bdL ?_ | with_reducible refine Two.bdR ?_ | (with_reducible refine Two.iL ?_ ?_; · ((try simp (disch := omega) only [w32i, Int.toNat_natCast]) <;> omega)) | (with_reducible refine Two.eL ?_ ?_; · ((try simp (disch := omega) only [w32i, Int.toNat_natCast]) <;> omega)) | (with_reducible refine Two.iR ?_ ?_; · ((try simp (disch := omega) only [w32i, Int.toNat_natCast]) <;> omega)) | (with_reducible refine Two.eR ?_ ?_; · ((try simp (disch := omega) only [w32i, Int.toNat_natCast]) <;> omega)) | unfold d_x8_tellsHead_27 | unfold d_x8_tellsHead_77))
    refine Two.cL rfl ?_
    refine Two.ret rfl (QH.val h2 H ?_)
    simp (disch := omega) only [w32i, Int.toNat_natCast, k22, k82, k83, n1.1, n2.1]
  · -- LIST
    have n1 := w.2.2.2.2.1 hk
    have n2 := hS.2.2.2.2.2.2.2 hk
    have n3 := n1.2.2 i n2
    have k25 := H.ct 25 (8 * p + i) (by omega) (by omega)
    have k85 := H.rt 85 (8 * p + i) (by omega) (by omega)
    (repeat (first | with_reducible refine Two.bdL ?_ | with_reducible refine Two.bdR ?_ | (with_reducible refine Two.iL ?_ ?_; · ((try simp (disch := omega) only [w32i, Int.toNat_natCast]) <;> omega)) | (with_reducible refine Two.eL ?_ ?_; · ((try simp (disch := omega) only [w32i, Int.toNat_natCast]) <;> omega)) | (with_reducible refine Two.iR ?_ ?_; · ((try simp (disch := omega) only [w32i, Int.toNat_natCast]) <;> omega)) | (with_reducible refine Two.eR ?_ ?_; · ((try simp (disch := omega) only [w32i, Int.toNat_natCast]) <;> omega)) | unfold d_x8_tellsHead_27 | unfold d_x8_tellsHead_77 | unfold d_x4_tellHead_159))
    refine Two.cL rfl ?_
    refine Two.ret rfl (QH.val h2 H ?_)
    simp (disch := omega) only [w32i, e8, e8', k25, k85, n3]
  · -- MAP
    have n1 := w.2.1 (by omega)
    have n2 := w.2.2.2.2.2.2.2.2.1 (by omega)
    have n3 := (w.2.2.2.2.2.2.2.2.2.2.2.1 (by omega)).1
    have n4 := hS.1 (by omega)
    (repeat (first | with_reducible refine Two.bdL ?_ | with_reducible refine Two.bdR ?_ | (with_reducible refine Two.iL ?_ ?_; · ((try simp (disch := omega) only [w32i, Int.toNat_natCast]) <;> omega)) | (with_reducible refine Two.eL ?_ ?_; · ((try simp (disch := omega) only [w32i, Int.toNat_natCast]) <;> omega)) | (with_reducible refine Two.iR ?_ ?_; · ((try simp (disch := omega) only [w32i, Int.toNat_natCast]) <;> omega)) | (with_reducible refine Two.eR ?_ ?_; · ((try simp (disch := omega) only [w32i, Int.toNat_natCast]) <;> omega)) | unfold d_x8_tellsHead_82 | unfold d_x8_tellsHead_185 | unfold d_x8_tellsHead_186 | unfold d_x8_tellsHead_239))
    refine Two.call (IH c r (p + 1) _ _ _ _ i H n3 rfl (by omega) rfl rfl n4 hf) (fun c1 r1 v1 q1 => ?_)
    obtain ⟨H1, M1, F1, A1, V1⟩ := q1
    have g1 := A1.rng
    have j20 := H1.ct 20 p (by omega) (by omega)
    have j80 := H1.rt 80 p (by omega) (by omega)
    have j82 := H1.rt 82 p (by omega) (by omega)
    by_cases hv : v1 = 1
    · (repeat (first | with_reducible refine Two.bdL ?_ | with_reducible refine Two.bdR ?_ | (with_reducible refine Two.iL ?_ ?_; · ((try simp (disch := omega) only [w32i, Int.toNat_natCast]) <;> omega)) | (with_reducible refine Two.eL ?_ ?_; · ((try simp (disch := omega) only [w32i, Int.toNat_natCast]) <;> omega)) | (with_reducible refine Two.iR ?_ ?_; · ((try simp (disch := omega) only [w32i, Int.toNat_natCast]) <;> omega)) | (with_reducible refine Two.eR ?_ ?_; · ((try simp (disch := omega) only [w32i, Int.toNat_natCast]) <;> omega)) | unfold d_x8_tellsHead_242 | unfold d_x8_tellsHead_269 | unfold d_x8_tellsHead_306 | unfold d_x8_tellsHead_341))
      refine Two.tail (Two.mono (J_comb h2 H1 (by ((try simp (disch := omega) only [w32i, Int.toNat_natCast]) <;> omega)) (by ((try simp (disch := omega) only [w32i, Int.toNat_natCast]) <;> omega)) (V1 hv).symm (by ((try simp (disch := omega) only [w32i, Int.toNat_natCast]) <;> omega))) (fun _ _ _ q => q.after M1 F1))
    · (repeat (first | with_reducible refine Two.bdL ?_ | with_reducible refine Two.bdR ?_ | (with_reducible refine Two.iL ?_ ?_; · ((try simp (disch := omega) only [w32i, Int.toNat_natCast]) <;> omega)) | (with_reducible refine Two.eL ?_ ?_; · ((try simp (disch := omega) only [w32i, Int.toNat_natCast]) <;> omega)) | (with_reducible refine Two.iR ?_ ?_; · ((try simp (disch := omega) only [w32i, Int.toNat_natCast]) <;> omega)) | (with_reducible refine Two.eR ?_ ?_; · ((try simp (disch := omega) only [w32i, Int.toNat_natCast]) <;> omega)) | unfold d_x8_tellsHead_242))
      exact Two.ret rfl ⟨H1, M1, F1, A1, fun z => absurd z hv⟩
  · -- KEEP
    have n3 := (w.2.2.2.2.2.2.2.2.2.2.2.1 (by omega)).1
    have n4 := hS.2.2.2.2.2.1 (by omega)
    have n5 := hK.1 (by omega)
    (repeat (first | with_reducible refine Two.bdL ?_ | with_reducible refine Two.bdR ?_ | (with_reducible refine Two.iL ?_ ?_; · ((try simp (disch := omega) only [w32i, Int.toNat_natCast, e64']) <;> omega)) | (with_reducible refine Two.eL ?_ ?_; · ((try simp (disch := omega) only [w32i, Int.toNat_natCast, e64']) <;> omega)) | (with_reducible refine Two.iR ?_ ?_; · ((try simp (disch := omega) only [w32i, Int.toNat_natCast, e64']) <;> omega)) | (with_reducible refine Two.eR ?_ ?_; · ((try simp (disch := omega) only [w32i, Int.toNat_natCast, e64']) <;> omega)) | unfold d_x8_tellsHead_82 | unfold d_x8_tellsHead_106))
    exact Two.tail (IH c r (p + 1) _ _ _ _ _ H n3 rfl (by omega) rfl (by simp (disch := omega) only [w32i, e64'] <;> omega) n4 hf)
  · -- WHILE
    have n3 := (w.2.2.2.2.2.2.2.2.2.2.2.1 (by omega)).1
    have n4 := hS.1 (by omega)
    (repeat (first | with_reducible refine Two.bdL ?_ | with_reducible refine Two.bdR ?_ | (with_reducible refine Two.iL ?_ ?_; · ((try simp (disch := omega) only [w32i, Int.toNat_natCast]) <;> omega)) | (with_reducible refine Two.eL ?_ ?_; · ((try simp (disch := omega) only [w32i, Int.toNat_natCast]) <;> omega)) | (with_reducible refine Two.iR ?_ ?_; · ((try simp (disch := omega) only [w32i, Int.toNat_natCast]) <;> omega)) | (with_reducible refine Two.eR ?_ ?_; · ((try simp (disch := omega) only [w32i, Int.toNat_natCast]) <;> omega)) | unfold d_x8_tellsHead_82 | unfold d_x8_tellsHead_185 | unfold d_x8_tellsHead_186 | unfold d_x8_tellsHead_239))
    refine Two.call (IH c r (p + 1) _ _ _ _ i H n3 rfl (by omega) rfl rfl n4 hf) (fun c1 r1 v1 q1 => ?_)
    obtain ⟨H1, M1, F1, A1, V1⟩ := q1
    have g1 := A1.rng
    by_cases hv : v1 = 1
    · (repeat (first | with_reducible refine Two.bdL ?_ | with_reducible refine Two.bdR ?_ | (with_reducible refine Two.iL ?_ ?_; · ((try simp (disch := omega) only [w32i, Int.toNat_natCast]) <;> omega)) | (with_reducible refine Two.eL ?_ ?_; · ((try simp (disch := omega) only [w32i, Int.toNat_natCast]) <;> omega)) | (with_reducible refine Two.iR ?_ ?_; · ((try simp (disch := omega) only [w32i, Int.toNat_natCast]) <;> omega)) | (with_reducible refine Two.eR ?_ ?_; · ((try simp (disch := omega) only [w32i, Int.toNat_natCast]) <;> omega)) | unfold d_x8_tellsHead_242))
      exact Two.ret rfl ⟨H1, M1, F1, A1, V1⟩
    · (repeat (first | with_reducible refine Two.bdL ?_ | with_reducible refine Two.bdR ?_ | (with_reducible refine Two.iL ?_ ?_; · ((try simp (disch := omega) only [w32i, Int.toNat_natCast]) <;> omega)) | (with_reducible refine Two.eL ?_ ?_; · ((try simp (disch := omega) only [w32i, Int.toNat_natCast]) <;> omega)) | (with_reducible refine Two.iR ?_ ?_; · ((try simp (disch := omega) only [w32i, Int.toNat_natCast]) <;> omega)) | (with_reducible refine Two.eR ?_ ?_; · ((try simp (disch := omega) only [w32i, Int.toNat_natCast]) <;> omega)) | unfold d_x8_tellsHead_242))
      exact Two.ret rfl ⟨H1, M1, F1, A1, V1⟩
  · -- ZIP
    have n2 := w.2.2.2.2.2.2.2.2.1 (by omega)
    have n3 := (w.2.2.2.2.2.2.2.2.2.2.2.1 (by omega)).1
    have n6 := (w.2.2.2.2.2.2.2.2.2.2.2.2 (by omega)).1
    have n4 := hS.1 (by omega)
    have n5 := hS.2.1 (by omega)
    (repeat (first | with_reducible refine Two.bdL ?_ | with_reducible refine Two.bdR ?_ | (with_reducible refine Two.iL ?_ ?_; · ((try simp (disch := omega) only [w32i, Int.toNat_natCast]) <;> omega)) | (with_reducible refine Two.eL ?_ ?_; · ((try simp (disch := omega) only [w32i, Int.toNat_natCast]) <;> omega)) | (with_reducible refine Two.iR ?_ ?_; · ((try simp (disch := omega) only [w32i, Int.toNat_natCast]) <;> omega)) | (with_reducible refine Two.eR ?_ ?_; · ((try simp (disch := omega) only [w32i, Int.toNat_natCast]) <;> omega)) | unfold d_x8_tellsHead_82 | unfold d_x8_tellsHead_185 | unfold d_x8_tellsHead_186 | unfold d_x8_tellsHead_239))
    refine Two.call (IH c r (p + 1) _ _ _ _ i H n3 rfl (by omega) rfl rfl n4 hf) (fun c1 r1 v1 q1 => ?_)
    obtain ⟨H1, M1, F1, A1, V1⟩ := q1
    have g1 := A1.rng
    by_cases hv : v1 = 1
    · (repeat (first | with_reducible refine Two.bdL ?_ | with_reducible refine Two.bdR ?_ | (with_reducible refine Two.iL ?_ ?_; · ((try simp (disch := omega) only [w32i, Int.toNat_natCast]) <;> omega)) | (with_reducible refine Two.eL ?_ ?_; · ((try simp (disch := omega) only [w32i, Int.toNat_natCast]) <;> omega)) | (with_reducible refine Two.iR ?_ ?_; · ((try simp (disch := omega) only [w32i, Int.toNat_natCast]) <;> omega)) | (with_reducible refine Two.eR ?_ ?_; · ((try simp (disch := omega) only [w32i, Int.toNat_natCast]) <;> omega)) | unfold d_x8_tellsHead_242 | unfold d_x8_tellsHead_269))
      refine Two.cL (e_second H1.ct H1.W n3) ?_
      refine Two.cR (e_other H1.rt H1.W n3) ?_
      unfold d_x8_tellsHead_302
      refine Two.call (IH c1 r1 _ _ _ _ _ i H1 n6 rfl rfl rfl rfl (n5.mo M1.pl) (M1.f hf)) (fun c2 r2 v2 q2 => ?_)
      obtain ⟨H2, M2, F2, A2, V2⟩ := q2
      have g2 := A2.rng
      have j20 := H2.ct 20 p (by omega) (by omega)
      have j80 := H2.rt 80 p (by omega) (by omega)
      by_cases hv2 : v2 = 1
      · (repeat (first | with_reducible refine Two.bdL ?_ | with_reducible refine Two.bdR ?_ | (with_reducible refine Two.iL ?_ ?_; · ((try simp (disch := omega) only [w32i, Int.toNat_natCast]) <;> omega)) | (with_reducible refine Two.eL ?_ ?_; · ((try simp (disch := omega) only [w32i, Int.toNat_natCast]) <;> omega)) | (with_reducible refine Two.iR ?_ ?_; · ((try simp (disch := omega) only [w32i, Int.toNat_natCast]) <;> omega)) | (with_reducible refine Two.eR ?_ ?_; · ((try simp (disch := omega) only [w32i, Int.toNat_natCast]) <;> omega)) | unfold d_x8_tellsHead_306 | unfold d_x8_tellsHead_341))
        refine Two.tail (Two.mono (J_comb h2 H2 (by ((try simp (disch := omega) only [w32i, Int.toNat_natCast]) <;> omega)) (by ((try simp (disch := omega) only [w32i, Int.toNat_natCast]) <;> omega)) (V1 hv).symm (V2 hv2).symm) (fun _ _ _ q => q.after (M1.trans M2) (F1.trans F2)))
      · (repeat (first | with_reducible refine Two.bdL ?_ | with_reducible refine Two.bdR ?_ | (with_reducible refine Two.iL ?_ ?_; · ((try simp (disch := omega) only [w32i, Int.toNat_natCast]) <;> omega)) | (with_reducible refine Two.eL ?_ ?_; · ((try simp (disch := omega) only [w32i, Int.toNat_natCast]) <;> omega)) | (with_reducible refine Two.iR ?_ ?_; · ((try simp (disch := omega) only [w32i, Int.toNat_natCast]) <;> omega)) | (with_reducible refine Two.eR ?_ ?_; · ((try simp (disch := omega) only [w32i, Int.toNat_natCast]) <;> omega)) | unfold d_x8_tellsHead_306))
        exact Two.ret rfl ⟨H2, M1.trans M2, F1.trans F2, A2, fun z => absurd z hv2⟩
    · (repeat (first | with_reducible refine Two.bdL ?_ | with_reducible refine Two.bdR ?_ | (with_reducible refine Two.iL ?_ ?_; · ((try simp (disch := omega) only [w32i, Int.toNat_natCast]) <;> omega)) | (with_reducible refine Two.eL ?_ ?_; · ((try simp (disch := omega) only [w32i, Int.toNat_natCast]) <;> omega)) | (with_reducible refine Two.iR ?_ ?_; · ((try simp (disch := omega) only [w32i, Int.toNat_natCast]) <;> omega)) | (with_reducible refine Two.eR ?_ ?_; · ((try simp (disch := omega) only [w32i, Int.toNat_natCast]) <;> omega)) | unfold d_x8_tellsHead_242))
      exact Two.ret rfl ⟨H1, M1, F1, A1, fun z => absurd z hv⟩
  · -- MERGE
    have n3 := (w.2.2.2.2.2.2.2.2.2.2.2.1 (by omega)).1
    have n6 := (w.2.2.2.2.2.2.2.2.2.2.2.2 (by omega)).1
    have n4 := hS.2.2.2.2.2.2.1 hk
    have n5 := hK.2 hk
    rcases n5 with n5 | n5
    · have e2 : Int.tmod (2 * c (t + 9) (64 * p + i)) 2 = 0 := by rw [Int.tmod_eq_emod_of_nonneg (by omega)]; omega
      have e3 : Int.tdiv (2 * c (t + 9) (64 * p + i)) 2 = c (t + 9) (64 * p + i) := by rw [Int.tdiv_eq_ediv_of_nonneg (by omega)]; omega
      (repeat (first | with_reducible refine Two.bdL ?_ | with_reducible refine Two.bdR ?_ | (with_reducible refine Two.iL ?_ ?_; · ((try simp (disch := omega) only [w32i, Int.toNat_natCast, e64', n5.2.2, e2]) <;> omega)) | (with_reducible refine Two.eL ?_ ?_; · ((try simp (disch := omega) only [w32i, Int.toNat_natCast, e64', n5.2.2, e2]) <;> omega)) | (with_reducible refine Two.iR ?_ ?_; · ((try simp (disch := omega) only [w32i, Int.toNat_natCast, e64', n5.2.2, e2]) <;> omega)) | (with_reducible refine Two.eR ?_ ?_; · ((try simp (disch := omega) only [w32i, Int.toNat_natCast, e64', n5.2.2, e2]) <;> omega)) | unfold d_x8_tellsHead_82 | unfold d_x8_tellsHead_163))
      exact Two.tail (IH c r (p + 1) _ _ _ _ _ H n3 rfl (by omega) rfl (by simp (disch := omega) only [w32i, e64', n5.2.2, e3]) (n4.1 (by omega)) hf)
    · have e2 : Int.tmod (2 * (c (t + 9) (64 * p + i) - 64) + 1) 2 = 1 := by rw [Int.tmod_eq_emod_of_nonneg (by omega)]; omega
      have e3 : Int.tdiv (2 * (c (t + 9) (64 * p + i) - 64) + 1) 2 = c (t + 9) (64 * p + i) - 64 := by rw [Int.tdiv_eq_ediv_of_nonneg (by omega)]; omega
      (repeat (first | with_reducible refine Two.bdL ?_ | with_reducible refine Two.bdR ?_ | (with_reducible refine Two.iL ?_ ?_; · ((try simp (disch := omega) only [w32i, Int.toNat_natCast, e64', n5.2.2, e2]) <;> omega)) | (with_reducible refine Two.eL ?_ ?_; · ((try simp (disch := omega) only [w32i, Int.toNat_natCast, e64', n5.2.2, e2]) <;> omega)) | (with_reducible refine Two.iR ?_ ?_; · ((try simp (disch := omega) only [w32i, Int.toNat_natCast, e64', n5.2.2, e2]) <;> omega)) | (with_reducible refine Two.eR ?_ ?_; · ((try simp (disch := omega) only [w32i, Int.toNat_natCast, e64', n5.2.2, e2]) <;> omega)) | unfold d_x8_tellsHead_82))
      refine Two.cL (e_second H.ct H.W n3) ?_
      refine Two.cR (e_other H.rt H.W n3) ?_
      (repeat (first | with_reducible refine Two.bdL ?_ | with_reducible refine Two.bdR ?_ | (with_reducible refine Two.iL ?_ ?_; · ((try simp (disch := omega) only [w32i, Int.toNat_natCast]) <;> omega)) | (with_reducible refine Two.eL ?_ ?_; · ((try simp (disch := omega) only [w32i, Int.toNat_natCast]) <;> omega)) | (with_reducible refine Two.iR ?_ ?_; · ((try simp (disch := omega) only [w32i, Int.toNat_natCast]) <;> omega)) | (with_reducible refine Two.eR ?_ ?_; · ((try simp (disch := omega) only [w32i, Int.toNat_natCast]) <;> omega)) | unfold d_x8_tellsHead_163))
      exact Two.tail (IH c r _ _ _ _ _ _ H n6 rfl rfl rfl (by simp (disch := omega) only [w32i, e64', n5.2.2, e3]) (n4.2 (by omega)) hf)
  · -- TAKE
    have n3 := (w.2.2.2.2.2.2.2.2.2.2.2.1 (by omega)).1
    have n4 := hS.1 (by omega)
    (repeat (first | with_reducible refine Two.bdL ?_ | with_reducible refine Two.bdR ?_ | (with_reducible refine Two.iL ?_ ?_; · ((try simp (disch := omega) only [w32i, Int.toNat_natCast]) <;> omega)) | (with_reducible refine Two.eL ?_ ?_; · ((try simp (disch := omega) only [w32i, Int.toNat_natCast]) <;> omega)) | (with_reducible refine Two.iR ?_ ?_; · ((try simp (disch := omega) only [w32i, Int.toNat_natCast]) <;> omega)) | (with_reducible refine Two.eR ?_ ?_; · ((try simp (disch := omega) only [w32i, Int.toNat_natCast]) <;> omega)) | unfold d_x8_tellsHead_82 | unfold d_x8_tellsHead_185 | unfold d_x8_tellsHead_186 | unfold d_x8_tellsHead_239))
    refine Two.call (IH c r (p + 1) _ _ _ _ i H n3 rfl (by omega) rfl rfl n4 hf) (fun c1 r1 v1 q1 => ?_)
    obtain ⟨H1, M1, F1, A1, V1⟩ := q1
    have g1 := A1.rng
    by_cases hv : v1 = 1
    · (repeat (first | with_reducible refine Two.bdL ?_ | with_reducible refine Two.bdR ?_ | (with_reducible refine Two.iL ?_ ?_; · ((try simp (disch := omega) only [w32i, Int.toNat_natCast]) <;> omega)) | (with_reducible refine Two.eL ?_ ?_; · ((try simp (disch := omega) only [w32i, Int.toNat_natCast]) <;> omega)) | (with_reducible refine Two.iR ?_ ?_; · ((try simp (disch := omega) only [w32i, Int.toNat_natCast]) <;> omega)) | (with_reducible refine Two.eR ?_ ?_; · ((try simp (disch := omega) only [w32i, Int.toNat_natCast]) <;> omega)) | unfold d_x8_tellsHead_242))
      exact Two.ret rfl ⟨H1, M1, F1, A1, V1⟩
    · (repeat (first | with_reducible refine Two.bdL ?_ | with_reducible refine Two.bdR ?_ | (with_reducible refine Two.iL ?_ ?_; · ((try simp (disch := omega) only [w32i, Int.toNat_natCast]) <;> omega)) | (with_reducible refine Two.eL ?_ ?_; · ((try simp (disch := omega) only [w32i, Int.toNat_natCast]) <;> omega)) | (with_reducible refine Two.iR ?_ ?_; · ((try simp (disch := omega) only [w32i, Int.toNat_natCast]) <;> omega)) | (with_reducible refine Two.eR ?_ ?_; · ((try simp (disch := omega) only [w32i, Int.toNat_natCast]) <;> omega)) | unfold d_x8_tellsHead_242))
      exact Two.ret rfl ⟨H1, M1, F1, A1, V1⟩
  · -- DROP
    have n1 := w.2.1 (by omega)
    have n7 := w.2.2.2.2.2.2.1 (by omega)
    have n3 := (w.2.2.2.2.2.2.2.2.2.2.2.1 (by omega)).1
    have n4 := hS.2.2.1 (by omega)
    (repeat (first | with_reducible refine Two.bdL ?_ | with_reducible refine Two.bdR ?_ | (with_reducible refine Two.iL ?_ ?_; · ((try simp (disch := omega) only [w32i, Int.toNat_natCast]) <;> omega)) | (with_reducible refine Two.eL ?_ ?_; · ((try simp (disch := omega) only [w32i, Int.toNat_natCast]) <;> omega)) | (with_reducible refine Two.iR ?_ ?_; · ((try simp (disch := omega) only [w32i, Int.toNat_natCast]) <;> omega)) | (with_reducible refine Two.eR ?_ ?_; · ((try simp (disch := omega) only [w32i, Int.toNat_natCast]) <;> omega)) | unfold d_x8_tellsHead_82 | unfold d_x8_tellsHead_185 | unfold d_x8_tellsHead_186 | unfold d_x8_tellsHead_239))
    refine Two.call (IH c r (p + 1) _ _ _ _ (i + T 21 p) H n3 rfl (by omega) (by ((try simp (disch := omega) only [w32i, Int.toNat_natCast]) <;> omega)) (by ((try simp (disch := omega) only [w32i, Int.toNat_natCast]) <;> omega)) n4 hf) (fun c1 r1 v1 q1 => ?_)
    obtain ⟨H1, M1, F1, A1, V1⟩ := q1
    have g1 := A1.rng
    by_cases hv : v1 = 1
    · (repeat (first | with_reducible refine Two.bdL ?_ | with_reducible refine Two.bdR ?_ | (with_reducible refine Two.iL ?_ ?_; · ((try simp (disch := omega) only [w32i, Int.toNat_natCast]) <;> omega)) | (with_reducible refine Two.eL ?_ ?_; · ((try simp (disch := omega) only [w32i, Int.toNat_natCast]) <;> omega)) | (with_reducible refine Two.iR ?_ ?_; · ((try simp (disch := omega) only [w32i, Int.toNat_natCast]) <;> omega)) | (with_reducible refine Two.eR ?_ ?_; · ((try simp (disch := omega) only [w32i, Int.toNat_natCast]) <;> omega)) | unfold d_x8_tellsHead_242))
      exact Two.ret rfl ⟨H1, M1, F1, A1, V1⟩
    · (repeat (first | with_reducible refine Two.bdL ?_ | with_reducible refine Two.bdR ?_ | (with_reducible refine Two.iL ?_ ?_; · ((try simp (disch := omega) only [w32i, Int.toNat_natCast]) <;> omega)) | (with_reducible refine Two.eL ?_ ?_; · ((try simp (disch := omega) only [w32i, Int.toNat_natCast]) <;> omega)) | (with_reducible refine Two.iR ?_ ?_; · ((try simp (disch := omega) only [w32i, Int.toNat_natCast]) <;> omega)) | (with_reducible refine Two.eR ?_ ?_; · ((try simp (disch := omega) only [w32i, Int.toNat_natCast]) <;> omega)) | unfold d_x8_tellsHead_242))
      exact Two.ret rfl ⟨H1, M1, F1, A1, V1⟩
  · -- SCAN
    have n2 := w.2.2.2.2.2.2.2.2.1 (by omega)
    have n3 := (w.2.2.2.2.2.2.2.2.2.2.2.1 (by omega)).1
    have n4 := hS.1 (by omega)
    by_cases hi0 : i = 0
    · (repeat (first | with_reducible refine Two.bdL ?_ | with_reducible refine Two.bdR ?_ | (with_reducible refine Two.iL ?_ ?_; · ((try simp (disch := omega) only [w32i, Int.toNat_natCast]) <;> omega)) | (with_reducible refine Two.eL ?_ ?_; · ((try simp (disch := omega) only [w32i, Int.toNat_natCast]) <;> omega)) | (with_reducible refine Two.iR ?_ ?_; · ((try simp (disch := omega) only [w32i, Int.toNat_natCast]) <;> omega)) | (with_reducible refine Two.eR ?_ ?_; · ((try simp (disch := omega) only [w32i, Int.toNat_natCast]) <;> omega)) | unfold d_x8_tellsHead_82 | unfold d_x8_tellsHead_185 | unfold d_x8_tellsHead_186 | unfold d_x8_tellsHead_239))
      refine Two.call (IH c r (p + 1) _ _ _ _ i H n3 rfl (by omega) (by omega) rfl n4 hf) (fun c1 r1 v1 q1 => ?_)
      obtain ⟨H1, M1, F1, A1, V1⟩ := q1
      have g1 := A1.rng
      by_cases hv : v1 = 1
      · (repeat (first | with_reducible refine Two.bdL ?_ | with_reducible refine Two.bdR ?_ | (with_reducible refine Two.iL ?_ ?_; · ((try simp (disch := omega) only [w32i, Int.toNat_natCast]) <;> omega)) | (with_reducible refine Two.eL ?_ ?_; · ((try simp (disch := omega) only [w32i, Int.toNat_natCast]) <;> omega)) | (with_reducible refine Two.iR ?_ ?_; · ((try simp (disch := omega) only [w32i, Int.toNat_natCast]) <;> omega)) | (with_reducible refine Two.eR ?_ ?_; · ((try simp (disch := omega) only [w32i, Int.toNat_natCast]) <;> omega)) | unfold d_x8_tellsHead_242))
        exact Two.ret rfl ⟨H1, M1, F1, A1, V1⟩
      · (repeat (first | with_reducible refine Two.bdL ?_ | with_reducible refine Two.bdR ?_ | (with_reducible refine Two.iL ?_ ?_; · ((try simp (disch := omega) only [w32i, Int.toNat_natCast]) <;> omega)) | (with_reducible refine Two.eL ?_ ?_; · ((try simp (disch := omega) only [w32i, Int.toNat_natCast]) <;> omega)) | (with_reducible refine Two.iR ?_ ?_; · ((try simp (disch := omega) only [w32i, Int.toNat_natCast]) <;> omega)) | (with_reducible refine Two.eR ?_ ?_; · ((try simp (disch := omega) only [w32i, Int.toNat_natCast]) <;> omega)) | unfold d_x8_tellsHead_242))
        exact Two.ret rfl ⟨H1, M1, F1, A1, V1⟩
    · (repeat (first | with_reducible refine Two.bdL ?_ | with_reducible refine Two.bdR ?_ | (with_reducible refine Two.iL ?_ ?_; · ((try simp (disch := omega) only [w32i, Int.toNat_natCast]) <;> omega)) | (with_reducible refine Two.eL ?_ ?_; · ((try simp (disch := omega) only [w32i, Int.toNat_natCast]) <;> omega)) | (with_reducible refine Two.iR ?_ ?_; · ((try simp (disch := omega) only [w32i, Int.toNat_natCast]) <;> omega)) | (with_reducible refine Two.eR ?_ ?_; · ((try simp (disch := omega) only [w32i, Int.toNat_natCast]) <;> omega)) | unfold d_x8_tellsHead_82 | unfold d_x8_tellsHead_186))
      refine Two.call (IH c r p _ _ _ _ ((i : Int) - 1) H hp rfl rfl rfl rfl ⟨p, res_self hk0, hp1, by omega, by omega⟩ hf) (fun c1 r1 v1 q1 => ?_)
      obtain ⟨H1, M1, F1, A1, V1⟩ := q1
      have g1 := A1.rng
      by_cases hv : v1 = 1
      · (repeat (first | with_reducible refine Two.bdL ?_ | with_reducible refine Two.bdR ?_ | (with_reducible refine Two.iL ?_ ?_; · ((try simp (disch := omega) only [w32i, Int.toNat_natCast]) <;> omega)) | (with_reducible refine Two.eL ?_ ?_; · ((try simp (disch := omega) only [w32i, Int.toNat_natCast]) <;> omega)) | (with_reducible refine Two.iR ?_ ?_; · ((try simp (disch := omega) only [w32i, Int.toNat_natCast]) <;> omega)) | (with_reducible refine Two.eR ?_ ?_; · ((try simp (disch := omega) only [w32i, Int.toNat_natCast]) <;> omega)) | unfold d_x8_tellsHead_242 | unfold d_x8_tellsHead_269))
        unfold d_x8_tellsHead_302
        refine Two.call (IH c1 r1 (p + 1) _ _ _ _ i H1 n3 rfl (by omega) rfl rfl (n4.mo M1.pl) (M1.f hf)) (fun c2 r2 v2 q2 => ?_)
        obtain ⟨H2, M2, F2, A2, V2⟩ := q2
        have g2 := A2.rng
        have j20 := H2.ct 20 p (by omega) (by omega)
        have j80 := H2.rt 80 p (by omega) (by omega)
        by_cases hv2 : v2 = 1
        · (repeat (first | with_reducible refine Two.bdL ?_ | with_reducible refine Two.bdR ?_ | (with_reducible refine Two.iL ?_ ?_; · ((try simp (disch := omega) only [w32i, Int.toNat_natCast]) <;> omega)) | (with_reducible refine Two.eL ?_ ?_; · ((try simp (disch := omega) only [w32i, Int.toNat_natCast]) <;> omega)) | (with_reducible refine Two.iR ?_ ?_; · ((try simp (disch := omega) only [w32i, Int.toNat_natCast]) <;> omega)) | (with_reducible refine Two.eR ?_ ?_; · ((try simp (disch := omega) only [w32i, Int.toNat_natCast]) <;> omega)) | unfold d_x8_tellsHead_306 | unfold d_x8_tellsHead_341))
          refine Two.tail (Two.mono (J_comb h2 H2 (by ((try simp (disch := omega) only [w32i, Int.toNat_natCast]) <;> omega)) (by ((try simp (disch := omega) only [w32i, Int.toNat_natCast]) <;> omega)) (V1 hv).symm (V2 hv2).symm) (fun _ _ _ q => q.after (M1.trans M2) (F1.trans F2)))
        · (repeat (first | with_reducible refine Two.bdL ?_ | with_reducible refine Two.bdR ?_ | (with_reducible refine Two.iL ?_ ?_; · ((try simp (disch := omega) only [w32i, Int.toNat_natCast]) <;> omega)) | (with_reducible refine Two.eL ?_ ?_; · ((try simp (disch := omega) only [w32i, Int.toNat_natCast]) <;> omega)) | (with_reducible refine Two.iR ?_ ?_; · ((try simp (disch := omega) only [w32i, Int.toNat_natCast]) <;> omega)) | (with_reducible refine Two.eR ?_ ?_; · ((try simp (disch := omega) only [w32i, Int.toNat_natCast]) <;> omega)) | unfold d_x8_tellsHead_306))
          exact Two.ret rfl ⟨H2, M1.trans M2, F1.trans F2, A2, fun z => absurd z hv2⟩
      · (repeat (first | with_reducible refine Two.bdL ?_ | with_reducible refine Two.bdR ?_ | (with_reducible refine Two.iL ?_ ?_; · ((try simp (disch := omega) only [w32i, Int.toNat_natCast]) <;> omega)) | (with_reducible refine Two.eL ?_ ?_; · ((try simp (disch := omega) only [w32i, Int.toNat_natCast]) <;> omega)) | (with_reducible refine Two.iR ?_ ?_; · ((try simp (disch := omega) only [w32i, Int.toNat_natCast]) <;> omega)) | (with_reducible refine Two.eR ?_ ?_; · ((try simp (disch := omega) only [w32i, Int.toNat_natCast]) <;> omega)) | unfold d_x8_tellsHead_242))
        exact Two.ret rfl ⟨H1, M1, F1, A1, fun z => absurd z hv⟩
  · -- SIEVE
    have n3 := (w.2.2.2.2.2.2.2.2.2.2.2.1 (by omega)).1
    have n4 := hS.2.2.2.2.2.1 (by omega)
    have n5 := hK.1 (by omega)
    (repeat (first | with_reducible refine Two.bdL ?_ | with_reducible refine Two.bdR ?_ | (with_reducible refine Two.iL ?_ ?_; · ((try simp (disch := omega) only [w32i, Int.toNat_natCast, e64']) <;> omega)) | (with_reducible refine Two.eL ?_ ?_; · ((try simp (disch := omega) only [w32i, Int.toNat_natCast, e64']) <;> omega)) | (with_reducible refine Two.iR ?_ ?_; · ((try simp (disch := omega) only [w32i, Int.toNat_natCast, e64']) <;> omega)) | (with_reducible refine Two.eR ?_ ?_; · ((try simp (disch := omega) only [w32i, Int.toNat_natCast, e64']) <;> omega)) | unfold d_x8_tellsHead_82 | unfold d_x8_tellsHead_106))
    exact Two.tail (IH c r (p + 1) _ _ _ _ _ H n3 rfl (by omega) rfl (by simp (disch := omega) only [w32i, e64'] <;> omega) n4 hf)
  · -- CONS
    have n1 := w.2.1 (by omega)
    have n3 := (w.2.2.2.2.2.2.2.2.2.2.2.1 (by omega)).1
    by_cases hi0 : i = 0
    · (repeat (first | with_reducible refine Two.bdL ?_ | with_reducible refine Two.bdR ?_ | (with_reducible refine Two.iL ?_ ?_; · ((try simp (disch := omega) only [w32i, Int.toNat_natCast]) <;> omega)) | (with_reducible refine Two.eL ?_ ?_; · ((try simp (disch := omega) only [w32i, Int.toNat_natCast]) <;> omega)) | (with_reducible refine Two.iR ?_ ?_; · ((try simp (disch := omega) only [w32i, Int.toNat_natCast]) <;> omega)) | (with_reducible refine Two.eR ?_ ?_; · ((try simp (disch := omega) only [w32i, Int.toNat_natCast]) <;> omega)) | unfold d_x8_tellsHead_27 | unfold d_x8_tellsHead_77))
      refine Two.cL rfl ?_
      refine Two.ret rfl (QH.val h2 H ?_)
      simp (disch := omega) only [w32i, Int.toNat_natCast, k82, n1.1]
    · have n4 := hS.2.2.2.1 hk (by omega)
      (repeat (first | with_reducible refine Two.bdL ?_ | with_reducible refine Two.bdR ?_ | (with_reducible refine Two.iL ?_ ?_; · ((try simp (disch := omega) only [w32i, Int.toNat_natCast]) <;> omega)) | (with_reducible refine Two.eL ?_ ?_; · ((try simp (disch := omega) only [w32i, Int.toNat_natCast]) <;> omega)) | (with_reducible refine Two.iR ?_ ?_; · ((try simp (disch := omega) only [w32i, Int.toNat_natCast]) <;> omega)) | (with_reducible refine Two.eR ?_ ?_; · ((try simp (disch := omega) only [w32i, Int.toNat_natCast]) <;> omega)) | unfold d_x8_tellsHead_82 | unfold d_x8_tellsHead_185 | unfold d_x8_tellsHead_186 | unfold d_x8_tellsHead_239))
      refine Two.call (IH c r (p + 1) _ _ _ _ ((i : Int) - 1) H n3 rfl (by omega) rfl rfl n4 hf) (fun c1 r1 v1 q1 => ?_)
      obtain ⟨H1, M1, F1, A1, V1⟩ := q1
      have g1 := A1.rng
      by_cases hv : v1 = 1
      · (repeat (first | with_reducible refine Two.bdL ?_ | with_reducible refine Two.bdR ?_ | (with_reducible refine Two.iL ?_ ?_; · ((try simp (disch := omega) only [w32i, Int.toNat_natCast]) <;> omega)) | (with_reducible refine Two.eL ?_ ?_; · ((try simp (disch := omega) only [w32i, Int.toNat_natCast]) <;> omega)) | (with_reducible refine Two.iR ?_ ?_; · ((try simp (disch := omega) only [w32i, Int.toNat_natCast]) <;> omega)) | (with_reducible refine Two.eR ?_ ?_; · ((try simp (disch := omega) only [w32i, Int.toNat_natCast]) <;> omega)) | unfold d_x8_tellsHead_242))
        exact Two.ret rfl ⟨H1, M1, F1, A1, V1⟩
      · (repeat (first | with_reducible refine Two.bdL ?_ | with_reducible refine Two.bdR ?_ | (with_reducible refine Two.iL ?_ ?_; · ((try simp (disch := omega) only [w32i, Int.toNat_natCast]) <;> omega)) | (with_reducible refine Two.eL ?_ ?_; · ((try simp (disch := omega) only [w32i, Int.toNat_natCast]) <;> omega)) | (with_reducible refine Two.iR ?_ ?_; · ((try simp (disch := omega) only [w32i, Int.toNat_natCast]) <;> omega)) | (with_reducible refine Two.eR ?_ ?_; · ((try simp (disch := omega) only [w32i, Int.toNat_natCast]) <;> omega)) | unfold d_x8_tellsHead_242))
        exact Two.ret rfl ⟨H1, M1, F1, A1, V1⟩
  · -- CUT
    have n1 := w.2.1 (by omega)
    have n8 := w.2.2.2.2.2.2.2.1 hk
    have n3 := (w.2.2.2.2.2.2.2.2.2.2.2.1 (by omega)).1
    have n4 := hS.2.2.2.2.1 hk
    (repeat (first | with_reducible refine Two.bdL ?_ | with_reducible refine Two.bdR ?_ | (with_reducible refine Two.iL ?_ ?_; · ((try simp (disch := omega) only [w32i, Int.toNat_natCast]) <;> omega)) | (with_reducible refine Two.eL ?_ ?_; · ((try simp (disch := omega) only [w32i, Int.toNat_natCast]) <;> omega)) | (with_reducible refine Two.iR ?_ ?_; · ((try simp (disch := omega) only [w32i, Int.toNat_natCast]) <;> omega)) | (with_reducible refine Two.eR ?_ ?_; · ((try simp (disch := omega) only [w32i, Int.toNat_natCast]) <;> omega)) | unfold d_x8_tellsHead_82))
    refine Two.tailR ?_
    unfold d_x8_cuts
    refine Two.iR hg1 (Two.bdR ?_)
    rw [w32i (x := (p : Int)) (by omega) (by omega), Int.toNat_natCast, k82, n1.1]
    exact L_cut h2 IH n3 n8 hi64 c r n4 (T 21 p).toNat N c r 0 0 (by omega) (by omega) (by omega) H Mo.refl Fm.refl hf
end
section
def QT (t : Nat) (T c r : St) (p i : Nat) (c' r' : St) (v : Int) : Prop := TI t T c' r' ∧ Mo t p c c' ∧ Fm r r' ∧ An v ∧ (v = 1 → KP t T c' r' p i ∧ SO t T c' p i ∧ NX t T c' p (i + 1)) ∧ (v ≠ 1 → NX t T c' p i)
theorem AnH.an {v : Int} (h : AnH v) : An v := by
  unfold AnH at h
  unfold An
  omega
theorem NX.no {t : Nat} {T c : St} {p : Nat} {m : Int} (h1 : T 19 p ≠ 4) (h2 : T 19 p ≠ 11) : NX t T c p m := fun z => by omega
theorem KP.no {t : Nat} {T c r : St} {p i : Nat} (h1 : T 19 p ≠ 4) (h2 : T 19 p ≠ 11) (h3 : T 19 p ≠ 7) : KP t T c r p i := ⟨fun z => by omega, fun z => by omega⟩
/-- a PLACE is told, but for KEEP, SIEVE, MERGE -/
theorem L_tell {t N : Nat} {T c r : St} {f : Int} {A Hd P Q : St → Int → Int → Option Rs} (hN : 100 ≤ N) (IHp : AP t T f A P) (IH : AH t T f Hd Q) (H : TI t T c r) {p i : Nat} (hp : VP T p) (hk0 : T 19 p ≠ 0) (hk4 : T 19 p ≠ 4) (hk7 : T 19 p ≠ 7) (hk11 : T 19 p ≠ 11) (hi64 : i < 64) (hf : c 50 2 < f + c 50 3) : Two (d_x4_tellPlace N A Hd t c (p : Int) (i : Int)) (d_x8_tellsPlace N P Q r (p : Int) (i : Int)) (QT t T c r p i) := by
  have hp1 := hp.1
  have w := H.W.2 p hp
  have w1 := w.1
  have k19 := H.ct 19 p (by omega) (by omega)
  have k21 := H.ct 21 p (by omega) (by omega)
  have k24 := H.ct 24 p (by omega) (by omega)
  have k79 := H.rt 79 p (by omega) (by omega)
  have k82 := H.rt 82 p (by omega) (by omega)
  have k84 := H.rt 84 p (by omega) (by omega)
  have hkind : T 19 p = 1 ∨ T 19 p = 2 ∨ T 19 p = 3 ∨ T 19 p = 5 ∨ T 19 p = 6 ∨ T 19 p = 8 ∨ T 19 p = 9 ∨ T 19 p = 10 ∨ T 19 p = 12 ∨ T 19 p = 13 := by omega
  have nx : ∀ (c' : St) (m : Int), NX t T c' p m := fun c' m => NX.no hk4 hk11
  have kp : ∀ (c' r' : St), KP t T c' r' p i := fun c' r' => KP.no hk4 hk11 hk7
  have fin : ∀ (c' r' : St) (v : Int), TI t T c' r' → Mo t 192 c c' → Fm r r' → An v → (v = 1 → SO t T c' p i) → QT t T c r p i c' r' v := fun c' r' v a1 a2 a3 a4 a5 => ⟨a1, a2.any, a3, a4, fun z => ⟨kp _ _, a5 z, nx _ _⟩, fun _ => nx _ _⟩
  unfold d_x4_tellPlace d_x8_tellsPlace
  refine Two.cL e_first ?_
  have hg1 : 0 ≤ w32 (p : Int) ∧ w32 (p : Int) < ((192 : Nat) : Int) := (by ((try simp (disch := omega) only [w32i, Int.toNat_natCast]) <;> omega))
  refine Two.iL hg1 (Two.bdL (Two.iL hg1 (Two.iR hg1 (Two.bdR ?_))))
  rw [w32i (x := (p : Int)) (by omega) (by omega), Int.toNat_natCast, k79, w1.1, k19, k21, w32i (x := T 19 p) (by omega) (by omega), w32i (x := (i : Int)) (by omega) (by omega)]
  rcases hkind with hk | hk | hk | hk | hk | hk | hk | hk | hk | hk <;> rw [hk]
  · -- FROM
    (repeat (first | with_reducible refine Two.bdL ?_ | with_reducible refine Two.bdR ?_ | (with_reducible refine Two.iL ?_ ?_; · ((try simp (disch := omega) only [w32i, Int.toNat_natCast]) <;> omega)) | (with_reducible refine Two.eL ?_ ?_; · ((try simp (disch := omega) only [w32i, Int.toNat_natCast]) <;> omega)) | (with_reducible refine Two.iR ?_ ?_; · ((try simp (disch := omega) only [w32i, Int.toNat_natCast]) <;> omega)) | (with_reducible refine Two.eR ?_ ?_; · ((try simp (disch := omega) only [w32i, Int.toNat_natCast]) <;> omega))))
    refine Two.ret rfl (fin _ _ _ H Mo.refl Fm.refl (by unfold An; omega) (fun _ => ?_))
    exact ⟨fun z => by omega, fun z => by omega, fun z => by omega, fun z => by omega, fun z => by omega, fun z => by omega, fun z => by omega, fun z => by omega⟩
  · -- LIST
    have n1 := w.2.2.2.2.1 hk
    have n2 := n1.1
    have n3 := n1.2.1
    by_cases hl : (i : Int) < T 24 p
    · (repeat (first | with_reducible refine Two.bdL ?_ | with_reducible refine Two.bdR ?_ | (with_reducible refine Two.iL ?_ ?_; · ((try simp (disch := omega) only [w32i, Int.toNat_natCast]) <;> omega)) | (with_reducible refine Two.eL ?_ ?_; · ((try simp (disch := omega) only [w32i, Int.toNat_natCast]) <;> omega)) | (with_reducible refine Two.iR ?_ ?_; · ((try simp (disch := omega) only [w32i, Int.toNat_natCast]) <;> omega)) | (with_reducible refine Two.eR ?_ ?_; · ((try simp (disch := omega) only [w32i, Int.toNat_natCast]) <;> omega))))
      refine Two.ret rfl (fin _ _ _ H Mo.refl Fm.refl (by unfold An; omega) (fun _ => ?_))
      exact ⟨fun z => by omega, fun z => by omega, fun z => by omega, fun z => by omega, fun z => by omega, fun z => by omega, fun z => by omega, fun z => hl⟩
    · (repeat (first | with_reducible refine Two.bdL ?_ | with_reducible refine Two.bdR ?_ | (with_reducible refine Two.iL ?_ ?_; · ((try simp (disch := omega) only [w32i, Int.toNat_natCast]) <;> omega)) | (with_reducible refine Two.eL ?_ ?_; · ((try simp (disch := omega) only [w32i, Int.toNat_natCast]) <;> omega)) | (with_reducible refine Two.iR ?_ ?_; · ((try simp (disch := omega) only [w32i, Int.toNat_natCast]) <;> omega)) | (with_reducible refine Two.eR ?_ ?_; · ((try simp (disch := omega) only [w32i, Int.toNat_natCast]) <;> omega))))
      exact Two.ret rfl (fin _ _ _ H Mo.refl Fm.refl (by unfold An; omega) (fun z => by omega))
  · -- MAP
    have n3 := (w.2.2.2.2.2.2.2.2.2.2.2.1 (by omega)).1
    (repeat (first | with_reducible refine Two.bdL ?_ | with_reducible refine Two.bdR ?_ | (with_reducible refine Two.iL ?_ ?_; · ((try simp (disch := omega) only [w32i, Int.toNat_natCast]) <;> omega)) | (with_reducible refine Two.eL ?_ ?_; · ((try simp (disch := omega) only [w32i, Int.toNat_natCast]) <;> omega)) | (with_reducible refine Two.iR ?_ ?_; · ((try simp (disch := omega) only [w32i, Int.toNat_natCast]) <;> omega)) | (with_reducible refine Two.eR ?_ ?_; · ((try simp (disch := omega) only [w32i, Int.toNat_natCast]) <;> omega)) | unfold d_x8_tellsPlace_84 | unfold d_x8_tellsPlace_106 | unfold d_x8_tellsPlace_159))
    refine Two.call (IHp c r (p + 1) _ _ _ _ i H n3 rfl (by omega) rfl rfl (by omega) (by omega) hf) (fun c1 r1 v1 q1 => ?_)
    obtain ⟨H1, M1, F1, A1, V1⟩ := q1
    have g1 := A1.rng
    by_cases hv : v1 = 1
    · (repeat (first | with_reducible refine Two.bdL ?_ | with_reducible refine Two.bdR ?_ | (with_reducible refine Two.iL ?_ ?_; · ((try simp (disch := omega) only [w32i, Int.toNat_natCast]) <;> omega)) | (with_reducible refine Two.eL ?_ ?_; · ((try simp (disch := omega) only [w32i, Int.toNat_natCast]) <;> omega)) | (with_reducible refine Two.iR ?_ ?_; · ((try simp (disch := omega) only [w32i, Int.toNat_natCast]) <;> omega)) | (with_reducible refine Two.eR ?_ ?_; · ((try simp (disch := omega) only [w32i, Int.toNat_natCast]) <;> omega))))
      refine Two.ret hv.symm (fin _ _ _ H1 M1 F1 A1 (fun z => ?_))
      exact ⟨fun _ => V1 z, fun z => by omega, fun z => by omega, fun z => by omega, fun z => by omega, fun z => by omega, fun z => by omega, fun z => by omega⟩
    · (repeat (first | with_reducible refine Two.bdL ?_ | with_reducible refine Two.bdR ?_ | (with_reducible refine Two.iL ?_ ?_; · ((try simp (disch := omega) only [w32i, Int.toNat_natCast]) <;> omega)) | (with_reducible refine Two.eL ?_ ?_; · ((try simp (disch := omega) only [w32i, Int.toNat_natCast]) <;> omega)) | (with_reducible refine Two.iR ?_ ?_; · ((try simp (disch := omega) only [w32i, Int.toNat_natCast]) <;> omega)) | (with_reducible refine Two.eR ?_ ?_; · ((try simp (disch := omega) only [w32i, Int.toNat_natCast]) <;> omega))))
      exact Two.ret rfl (fin _ _ _ H1 M1 F1 A1 (fun z => absurd z hv))
  · -- WHILE
    have n1 := w.2.1 (by omega)
    have n10 := w.2.2.2.2.2.2.2.2.2.1 (by omega)
    have n3 := (w.2.2.2.2.2.2.2.2.2.2.2.1 (by omega)).1
    (repeat (first | with_reducible refine Two.bdL ?_ | with_reducible refine Two.bdR ?_ | (with_reducible refine Two.iL ?_ ?_; · ((try simp (disch := omega) only [w32i, Int.toNat_natCast]) <;> omega)) | (with_reducible refine Two.eL ?_ ?_; · ((try simp (disch := omega) only [w32i, Int.toNat_natCast]) <;> omega)) | (with_reducible refine Two.iR ?_ ?_; · ((try simp (disch := omega) only [w32i, Int.toNat_natCast]) <;> omega)) | (with_reducible refine Two.eR ?_ ?_; · ((try simp (disch := omega) only [w32i, Int.toNat_natCast]) <;> omega)) | unfold d_x8_tellsPlace_84 | unfold d_x8_tellsPlace_106 | unfold d_x8_tellsPlace_159))
    refine Two.call (IHp c r (p + 1) _ _ _ _ i H n3 rfl (by omega) rfl rfl (by omega) (by omega) hf) (fun c1 r1 v1 q1 => ?_)
    obtain ⟨H1, M1, F1, A1, V1⟩ := q1
    have g1 := A1.rng
    by_cases hv : v1 = 1
    · (repeat (first | with_reducible refine Two.bdL ?_ | with_reducible refine Two.bdR ?_ | (with_reducible refine Two.iL ?_ ?_; · ((try simp (disch := omega) only [w32i, Int.toNat_natCast]) <;> omega)) | (with_reducible refine Two.eL ?_ ?_; · ((try simp (disch := omega) only [w32i, Int.toNat_natCast]) <;> omega)) | (with_reducible refine Two.iR ?_ ?_; · ((try simp (disch := omega) only [w32i, Int.toNat_natCast]) <;> omega)) | (with_reducible refine Two.eR ?_ ?_; · ((try simp (disch := omega) only [w32i, Int.toNat_natCast]) <;> omega))))
      refine Two.call (IH c1 r1 (p + 1) _ _ _ _ i H1 n3 rfl (by omega) rfl rfl (V1 hv) (M1.f hf)) (fun c2 r2 v2 q2 => ?_)
      obtain ⟨H2, M2, F2, A2, V2⟩ := q2
      have g2 := A2.rng
      by_cases hv2 : v2 = 1
      · have j20 := H2.ct 20 p (by omega) (by omega)
        have j80 := H2.rt 80 p (by omega) (by omega)
        have j82 := H2.rt 82 p (by omega) (by omega)
        (repeat (first | with_reducible refine Two.bdL ?_ | with_reducible refine Two.bdR ?_ | (with_reducible refine Two.iL ?_ ?_; · ((try simp (disch := omega) only [w32i, Int.toNat_natCast]) <;> omega)) | (with_reducible refine Two.eL ?_ ?_; · ((try simp (disch := omega) only [w32i, Int.toNat_natCast]) <;> omega)) | (with_reducible refine Two.iR ?_ ?_; · ((try simp (disch := omega) only [w32i, Int.toNat_natCast]) <;> omega)) | (with_reducible refine Two.eR ?_ ?_; · ((try simp (disch := omega) only [w32i, Int.toNat_natCast]) <;> omega)) | unfold d_x4_tellPlace_230))
        rw [w32i (x := (p : Int)) (by omega) (by omega), Int.toNat_natCast, j20]
        obtain ⟨v3, e1, e2, e3⟩ := J_pass (c := c2) (r := r2) (N := N) (a := c2 50 4) (a' := r2 77 38) hp1 n10 n1.2 (by omega) (by omega) (V2 hv2).symm
        refine Two.cL e1 ?_
        refine Two.cR e2 ?_
        refine Two.ret rfl (fin _ _ _ H2 (M1.trans M2) (F1.trans F2) (by unfold An; omega) (fun z => ?_))
        exact ⟨fun _ => (V1 hv).mo M2.pl, fun z => by omega, fun z => by omega, fun z => by omega, fun z => by omega, fun z => by omega, fun z => by omega, fun z => by omega⟩
      · (repeat (first | with_reducible refine Two.bdL ?_ | with_reducible refine Two.bdR ?_ | (with_reducible refine Two.iL ?_ ?_; · ((try simp (disch := omega) only [w32i, Int.toNat_natCast]) <;> omega)) | (with_reducible refine Two.eL ?_ ?_; · ((try simp (disch := omega) only [w32i, Int.toNat_natCast]) <;> omega)) | (with_reducible refine Two.iR ?_ ?_; · ((try simp (disch := omega) only [w32i, Int.toNat_natCast]) <;> omega)) | (with_reducible refine Two.eR ?_ ?_; · ((try simp (disch := omega) only [w32i, Int.toNat_natCast]) <;> omega)) | unfold d_x4_tellPlace_230))
        exact Two.ret rfl (fin _ _ _ H2 (M1.trans M2) (F1.trans F2) A2.an (fun z => absurd z hv2))
    · (repeat (first | with_reducible refine Two.bdL ?_ | with_reducible refine Two.bdR ?_ | (with_reducible refine Two.iL ?_ ?_; · ((try simp (disch := omega) only [w32i, Int.toNat_natCast]) <;> omega)) | (with_reducible refine Two.eL ?_ ?_; · ((try simp (disch := omega) only [w32i, Int.toNat_natCast]) <;> omega)) | (with_reducible refine Two.iR ?_ ?_; · ((try simp (disch := omega) only [w32i, Int.toNat_natCast]) <;> omega)) | (with_reducible refine Two.eR ?_ ?_; · ((try simp (disch := omega) only [w32i, Int.toNat_natCast]) <;> omega)) | unfold d_x4_tellPlace_230))
      exact Two.ret rfl (fin _ _ _ H1 M1 F1 A1 (fun z => absurd z hv))
  · -- ZIP
    have n3 := (w.2.2.2.2.2.2.2.2.2.2.2.1 (by omega)).1
    have n6 := (w.2.2.2.2.2.2.2.2.2.2.2.2 (by omega)).1
    (repeat (first | with_reducible refine Two.bdL ?_ | with_reducible refine Two.bdR ?_ | (with_reducible refine Two.iL ?_ ?_; · ((try simp (disch := omega) only [w32i, Int.toNat_natCast]) <;> omega)) | (with_reducible refine Two.eL ?_ ?_; · ((try simp (disch := omega) only [w32i, Int.toNat_natCast]) <;> omega)) | (with_reducible refine Two.iR ?_ ?_; · ((try simp (disch := omega) only [w32i, Int.toNat_natCast]) <;> omega)) | (with_reducible refine Two.eR ?_ ?_; · ((try simp (disch := omega) only [w32i, Int.toNat_natCast]) <;> omega)) | unfold d_x8_tellsPlace_84 | unfold d_x8_tellsPlace_106 | unfold d_x8_tellsPlace_159))
    refine Two.call (IHp c r (p + 1) _ _ _ _ i H n3 rfl (by omega) rfl rfl (by omega) (by omega) hf) (fun c1 r1 v1 q1 => ?_)
    obtain ⟨H1, M1, F1, A1, V1⟩ := q1
    have g1 := A1.rng
    by_cases hv : v1 = 1
    · (repeat (first | with_reducible refine Two.bdL ?_ | with_reducible refine Two.bdR ?_ | (with_reducible refine Two.iL ?_ ?_; · ((try simp (disch := omega) only [w32i, Int.toNat_natCast]) <;> omega)) | (with_reducible refine Two.eL ?_ ?_; · ((try simp (disch := omega) only [w32i, Int.toNat_natCast]) <;> omega)) | (with_reducible refine Two.iR ?_ ?_; · ((try simp (disch := omega) only [w32i, Int.toNat_natCast]) <;> omega)) | (with_reducible refine Two.eR ?_ ?_; · ((try simp (disch := omega) only [w32i, Int.toNat_natCast]) <;> omega))))
      refine Two.cL (e_second H1.ct H1.W n3) ?_
      refine Two.cR (e_other H1.rt H1.W n3) ?_
      refine Two.tail (Two.mono (IHp c1 r1 _ _ _ _ _ i H1 n6 rfl rfl rfl rfl (by omega) (by omega) (M1.f hf)) (fun c2 r2 v2 q2 => ?_))
      obtain ⟨H2, M2, F2, A2, V2⟩ := q2
      refine fin _ _ _ H2 (M1.trans M2) (F1.trans F2) A2 (fun z => ?_)
      exact ⟨fun _ => (V1 hv).mo M2.pl, fun _ => V2 z, fun z => by omega, fun z => by omega, fun z => by omega, fun z => by omega, fun z => by omega, fun z => by omega⟩
    · (repeat (first | with_reducible refine Two.bdL ?_ | with_reducible refine Two.bdR ?_ | (with_reducible refine Two.iL ?_ ?_; · ((try simp (disch := omega) only [w32i, Int.toNat_natCast]) <;> omega)) | (with_reducible refine Two.eL ?_ ?_; · ((try simp (disch := omega) only [w32i, Int.toNat_natCast]) <;> omega)) | (with_reducible refine Two.iR ?_ ?_; · ((try simp (disch := omega) only [w32i, Int.toNat_natCast]) <;> omega)) | (with_reducible refine Two.eR ?_ ?_; · ((try simp (disch := omega) only [w32i, Int.toNat_natCast]) <;> omega))))
      exact Two.ret rfl (fin _ _ _ H1 M1 F1 A1 (fun z => absurd z hv))
  · -- TAKE
    have n1 := w.2.1 (by omega)
    have n7 := w.2.2.2.2.2.2.1 (by omega)
    have n3 := (w.2.2.2.2.2.2.2.2.2.2.2.1 (by omega)).1
    have e82 : w64 (r 82 p) = T 21 p := by rw [k82, n1.1, w64_id (by omega)]
    by_cases hl : (i : Int) < T 21 p
    · (repeat (first | with_reducible refine Two.bdL ?_ | with_reducible refine Two.bdR ?_ | (with_reducible refine Two.iL ?_ ?_; · ((try simp (disch := omega) only [w32i, Int.toNat_natCast, e82]) <;> omega)) | (with_reducible refine Two.eL ?_ ?_; · ((try simp (disch := omega) only [w32i, Int.toNat_natCast, e82]) <;> omega)) | (with_reducible refine Two.iR ?_ ?_; · ((try simp (disch := omega) only [w32i, Int.toNat_natCast, e82]) <;> omega)) | (with_reducible refine Two.eR ?_ ?_; · ((try simp (disch := omega) only [w32i, Int.toNat_natCast, e82]) <;> omega)) | unfold d_x8_tellsPlace_84 | unfold d_x8_tellsPlace_106 | unfold d_x8_tellsPlace_159))
      refine Two.call (IHp c r (p + 1) _ _ _ _ i H n3 rfl (by omega) rfl rfl (by omega) (by omega) hf) (fun c1 r1 v1 q1 => ?_)
      obtain ⟨H1, M1, F1, A1, V1⟩ := q1
      have g1 := A1.rng
      by_cases hv : v1 = 1
      · (repeat (first | with_reducible refine Two.bdL ?_ | with_reducible refine Two.bdR ?_ | (with_reducible refine Two.iL ?_ ?_; · ((try simp (disch := omega) only [w32i, Int.toNat_natCast]) <;> omega)) | (with_reducible refine Two.eL ?_ ?_; · ((try simp (disch := omega) only [w32i, Int.toNat_natCast]) <;> omega)) | (with_reducible refine Two.iR ?_ ?_; · ((try simp (disch := omega) only [w32i, Int.toNat_natCast]) <;> omega)) | (with_reducible refine Two.eR ?_ ?_; · ((try simp (disch := omega) only [w32i, Int.toNat_natCast]) <;> omega))))
        refine Two.ret hv.symm (fin _ _ _ H1 M1 F1 A1 (fun z => ?_))
        exact ⟨fun _ => V1 z, fun z => by omega, fun z => by omega, fun z => by omega, fun z => by omega, fun z => by omega, fun z => by omega, fun z => by omega⟩
      · (repeat (first | with_reducible refine Two.bdL ?_ | with_reducible refine Two.bdR ?_ | (with_reducible refine Two.iL ?_ ?_; · ((try simp (disch := omega) only [w32i, Int.toNat_natCast]) <;> omega)) | (with_reducible refine Two.eL ?_ ?_; · ((try simp (disch := omega) only [w32i, Int.toNat_natCast]) <;> omega)) | (with_reducible refine Two.iR ?_ ?_; · ((try simp (disch := omega) only [w32i, Int.toNat_natCast]) <;> omega)) | (with_reducible refine Two.eR ?_ ?_; · ((try simp (disch := omega) only [w32i, Int.toNat_natCast]) <;> omega))))
        exact Two.ret rfl (fin _ _ _ H1 M1 F1 A1 (fun z => absurd z hv))
    · (repeat (first | with_reducible refine Two.bdL ?_ | with_reducible refine Two.bdR ?_ | (with_reducible refine Two.iL ?_ ?_; · ((try simp (disch := omega) only [w32i, Int.toNat_natCast, e82]) <;> omega)) | (with_reducible refine Two.eL ?_ ?_; · ((try simp (disch := omega) only [w32i, Int.toNat_natCast, e82]) <;> omega)) | (with_reducible refine Two.iR ?_ ?_; · ((try simp (disch := omega) only [w32i, Int.toNat_natCast, e82]) <;> omega)) | (with_reducible refine Two.eR ?_ ?_; · ((try simp (disch := omega) only [w32i, Int.toNat_natCast, e82]) <;> omega)) | unfold d_x8_tellsPlace_94))
      exact Two.ret rfl (fin _ _ _ H Mo.refl Fm.refl (by unfold An; omega) (fun z => by omega))
  · -- DROP
    have n1 := w.2.1 (by omega)
    have n7 := w.2.2.2.2.2.2.1 (by omega)
    have n3 := (w.2.2.2.2.2.2.2.2.2.2.2.1 (by omega)).1
    (repeat (first | with_reducible refine Two.bdL ?_ | with_reducible refine Two.bdR ?_ | (with_reducible refine Two.iL ?_ ?_; · ((try simp (disch := omega) only [w32i, Int.toNat_natCast]) <;> omega)) | (with_reducible refine Two.eL ?_ ?_; · ((try simp (disch := omega) only [w32i, Int.toNat_natCast]) <;> omega)) | (with_reducible refine Two.iR ?_ ?_; · ((try simp (disch := omega) only [w32i, Int.toNat_natCast]) <;> omega)) | (with_reducible refine Two.eR ?_ ?_; · ((try simp (disch := omega) only [w32i, Int.toNat_natCast]) <;> omega)) | unfold d_x8_tellsPlace_84 | unfold d_x8_tellsPlace_106 | unfold d_x8_tellsPlace_159))
    refine Two.call (IHp c r (p + 1) _ _ _ _ (i + T 21 p) H n3 rfl (by omega) rfl (by ((try simp (disch := omega) only [w32i, Int.toNat_natCast]) <;> omega)) (by omega) (by omega) hf) (fun c1 r1 v1 q1 => ?_)
    obtain ⟨H1, M1, F1, A1, V1⟩ := q1
    have g1 := A1.rng
    by_cases hv : v1 = 1
    · (repeat (first | with_reducible refine Two.bdL ?_ | with_reducible refine Two.bdR ?_ | (with_reducible refine Two.iL ?_ ?_; · ((try simp (disch := omega) only [w32i, Int.toNat_natCast]) <;> omega)) | (with_reducible refine Two.eL ?_ ?_; · ((try simp (disch := omega) only [w32i, Int.toNat_natCast]) <;> omega)) | (with_reducible refine Two.iR ?_ ?_; · ((try simp (disch := omega) only [w32i, Int.toNat_natCast]) <;> omega)) | (with_reducible refine Two.eR ?_ ?_; · ((try simp (disch := omega) only [w32i, Int.toNat_natCast]) <;> omega))))
      refine Two.ret hv.symm (fin _ _ _ H1 M1 F1 A1 (fun z => ?_))
      exact ⟨fun z => by omega, fun z => by omega, fun _ => V1 z, fun z => by omega, fun z => by omega, fun z => by omega, fun z => by omega, fun z => by omega⟩
    · (repeat (first | with_reducible refine Two.bdL ?_ | with_reducible refine Two.bdR ?_ | (with_reducible refine Two.iL ?_ ?_; · ((try simp (disch := omega) only [w32i, Int.toNat_natCast]) <;> omega)) | (with_reducible refine Two.eL ?_ ?_; · ((try simp (disch := omega) only [w32i, Int.toNat_natCast]) <;> omega)) | (with_reducible refine Two.iR ?_ ?_; · ((try simp (disch := omega) only [w32i, Int.toNat_natCast]) <;> omega)) | (with_reducible refine Two.eR ?_ ?_; · ((try simp (disch := omega) only [w32i, Int.toNat_natCast]) <;> omega))))
      exact Two.ret rfl (fin _ _ _ H1 M1 F1 A1 (fun z => absurd z hv))
  · -- SCAN
    have n3 := (w.2.2.2.2.2.2.2.2.2.2.2.1 (by omega)).1
    (repeat (first | with_reducible refine Two.bdL ?_ | with_reducible refine Two.bdR ?_ | (with_reducible refine Two.iL ?_ ?_; · ((try simp (disch := omega) only [w32i, Int.toNat_natCast]) <;> omega)) | (with_reducible refine Two.eL ?_ ?_; · ((try simp (disch := omega) only [w32i, Int.toNat_natCast]) <;> omega)) | (with_reducible refine Two.iR ?_ ?_; · ((try simp (disch := omega) only [w32i, Int.toNat_natCast]) <;> omega)) | (with_reducible refine Two.eR ?_ ?_; · ((try simp (disch := omega) only [w32i, Int.toNat_natCast]) <;> omega)) | unfold d_x8_tellsPlace_84 | unfold d_x8_tellsPlace_106 | unfold d_x8_tellsPlace_159))
    refine Two.call (IHp c r (p + 1) _ _ _ _ i H n3 rfl (by omega) rfl rfl (by omega) (by omega) hf) (fun c1 r1 v1 q1 => ?_)
    obtain ⟨H1, M1, F1, A1, V1⟩ := q1
    have g1 := A1.rng
    by_cases hv : v1 = 1
    · (repeat (first | with_reducible refine Two.bdL ?_ | with_reducible refine Two.bdR ?_ | (with_reducible refine Two.iL ?_ ?_; · ((try simp (disch := omega) only [w32i, Int.toNat_natCast]) <;> omega)) | (with_reducible refine Two.eL ?_ ?_; · ((try simp (disch := omega) only [w32i, Int.toNat_natCast]) <;> omega)) | (with_reducible refine Two.iR ?_ ?_; · ((try simp (disch := omega) only [w32i, Int.toNat_natCast]) <;> omega)) | (with_reducible refine Two.eR ?_ ?_; · ((try simp (disch := omega) only [w32i, Int.toNat_natCast]) <;> omega))))
      refine Two.ret hv.symm (fin _ _ _ H1 M1 F1 A1 (fun z => ?_))
      exact ⟨fun _ => V1 z, fun z => by omega, fun z => by omega, fun z => by omega, fun z => by omega, fun z => by omega, fun z => by omega, fun z => by omega⟩
    · (repeat (first | with_reducible refine Two.bdL ?_ | with_reducible refine Two.bdR ?_ | (with_reducible refine Two.iL ?_ ?_; · ((try simp (disch := omega) only [w32i, Int.toNat_natCast]) <;> omega)) | (with_reducible refine Two.eL ?_ ?_; · ((try simp (disch := omega) only [w32i, Int.toNat_natCast]) <;> omega)) | (with_reducible refine Two.iR ?_ ?_; · ((try simp (disch := omega) only [w32i, Int.toNat_natCast]) <;> omega)) | (with_reducible refine Two.eR ?_ ?_; · ((try simp (disch := omega) only [w32i, Int.toNat_natCast]) <;> omega))))
      exact Two.ret rfl (fin _ _ _ H1 M1 F1 A1 (fun z => absurd z hv))
  · -- CONS
    have n3 := (w.2.2.2.2.2.2.2.2.2.2.2.1 (by omega)).1
    by_cases hi0 : i = 0
    · (repeat (first | with_reducible refine Two.bdL ?_ | with_reducible refine Two.bdR ?_ | (with_reducible refine Two.iL ?_ ?_; · ((try simp (disch := omega) only [w32i, Int.toNat_natCast]) <;> omega)) | (with_reducible refine Two.eL ?_ ?_; · ((try simp (disch := omega) only [w32i, Int.toNat_natCast]) <;> omega)) | (with_reducible refine Two.iR ?_ ?_; · ((try simp (disch := omega) only [w32i, Int.toNat_natCast]) <;> omega)) | (with_reducible refine Two.eR ?_ ?_; · ((try simp (disch := omega) only [w32i, Int.toNat_natCast]) <;> omega)) | unfold d_x8_tellsPlace_84 | unfold d_x8_tellsPlace_94))
      refine Two.ret rfl (fin _ _ _ H Mo.refl Fm.refl (by unfold An; omega) (fun _ => ?_))
      exact ⟨fun z => by omega, fun z => by omega, fun z => by omega, fun _ z => by omega, fun z => by omega, fun z => by omega, fun z => by omega, fun z => by omega⟩
    · (repeat (first | with_reducible refine Two.bdL ?_ | with_reducible refine Two.bdR ?_ | (with_reducible refine Two.iL ?_ ?_; · ((try simp (disch := omega) only [w32i, Int.toNat_natCast]) <;> omega)) | (with_reducible refine Two.eL ?_ ?_; · ((try simp (disch := omega) only [w32i, Int.toNat_natCast]) <;> omega)) | (with_reducible refine Two.iR ?_ ?_; · ((try simp (disch := omega) only [w32i, Int.toNat_natCast]) <;> omega)) | (with_reducible refine Two.eR ?_ ?_; · ((try simp (disch := omega) only [w32i, Int.toNat_natCast]) <;> omega)) | unfold d_x8_tellsPlace_84 | unfold d_x8_tellsPlace_106 | unfold d_x8_tellsPlace_159))
      refine Two.call (IHp c r (p + 1) _ _ _ _ ((i : Int) - 1) H n3 rfl (by omega) rfl rfl (by omega) (by omega) hf) (fun c1 r1 v1 q1 => ?_)
      obtain ⟨H1, M1, F1, A1, V1⟩ := q1
      have g1 := A1.rng
      by_cases hv : v1 = 1
      · (repeat (first | with_reducible refine Two.bdL ?_ | with_reducible refine Two.bdR ?_ | (with_reducible refine Two.iL ?_ ?_; · ((try simp (disch := omega) only [w32i, Int.toNat_natCast]) <;> omega)) | (with_reducible refine Two.eL ?_ ?_; · ((try simp (disch := omega) only [w32i, Int.toNat_natCast]) <;> omega)) | (with_reducible refine Two.iR ?_ ?_; · ((try simp (disch := omega) only [w32i, Int.toNat_natCast]) <;> omega)) | (with_reducible refine Two.eR ?_ ?_; · ((try simp (disch := omega) only [w32i, Int.toNat_natCast]) <;> omega))))
        refine Two.ret hv.symm (fin _ _ _ H1 M1 F1 A1 (fun z => ?_))
        exact ⟨fun z => by omega, fun z => by omega, fun z => by omega, fun _ _ => V1 z, fun z => by omega, fun z => by omega, fun z => by omega, fun z => by omega⟩
      · (repeat (first | with_reducible refine Two.bdL ?_ | with_reducible refine Two.bdR ?_ | (with_reducible refine Two.iL ?_ ?_; · ((try simp (disch := omega) only [w32i, Int.toNat_natCast]) <;> omega)) | (with_reducible refine Two.eL ?_ ?_; · ((try simp (disch := omega) only [w32i, Int.toNat_natCast]) <;> omega)) | (with_reducible refine Two.iR ?_ ?_; · ((try simp (disch := omega) only [w32i, Int.toNat_natCast]) <;> omega)) | (with_reducible refine Two.eR ?_ ?_; · ((try simp (disch := omega) only [w32i, Int.toNat_natCast]) <;> omega))))
        exact Two.ret rfl (fin _ _ _ H1 M1 F1 A1 (fun z => absurd z hv))
  · -- CUT
    have n1 := w.2.1 (by omega)
    have n8 := w.2.2.2.2.2.2.2.1 hk
    have n3 := (w.2.2.2.2.2.2.2.2.2.2.2.1 (by omega)).1
    have e1 : 1 ≤ T 21 p * ((i : Int) + 1) := by
      have := Int.mul_le_mul n8.1 (show (1 : Int) ≤ (i : Int) + 1 by omega) (by omega) (by omega)
      omega
    have e2 : T 21 p * ((i : Int) + 1) ≤ 9 * 64 := Int.mul_le_mul n8.2 (by omega) (by omega) (by omega)
    (repeat (first | with_reducible refine Two.bdL ?_ | with_reducible refine Two.bdR ?_ | (with_reducible refine Two.iL ?_ ?_; · ((try simp (disch := omega) only [w32i, Int.toNat_natCast]) <;> omega)) | (with_reducible refine Two.eL ?_ ?_; · ((try simp (disch := omega) only [w32i, Int.toNat_natCast]) <;> omega)) | (with_reducible refine Two.iR ?_ ?_; · ((try simp (disch := omega) only [w32i, Int.toNat_natCast]) <;> omega)) | (with_reducible refine Two.eR ?_ ?_; · ((try simp (disch := omega) only [w32i, Int.toNat_natCast]) <;> omega)) | unfold d_x8_tellsPlace_84 | unfold d_x8_tellsPlace_106 | unfold d_x8_tellsPlace_159))
    rw [w32i (x := (p : Int)) (by omega) (by omega), Int.toNat_natCast, k82, n1.1]
    refine Two.call (IHp c r (p + 1) _ _ _ _ (T 21 p * ((i : Int) + 1) - 1) H n3 rfl (by omega) rfl rfl (by omega) (by omega) hf) (fun c1 r1 v1 q1 => ?_)
    obtain ⟨H1, M1, F1, A1, V1⟩ := q1
    have g1 := A1.rng
    by_cases hv : v1 = 1
    · (repeat (first | with_reducible refine Two.bdL ?_ | with_reducible refine Two.bdR ?_ | (with_reducible refine Two.iL ?_ ?_; · ((try simp (disch := omega) only [w32i, Int.toNat_natCast]) <;> omega)) | (with_reducible refine Two.eL ?_ ?_; · ((try simp (disch := omega) only [w32i, Int.toNat_natCast]) <;> omega)) | (with_reducible refine Two.iR ?_ ?_; · ((try simp (disch := omega) only [w32i, Int.toNat_natCast]) <;> omega)) | (with_reducible refine Two.eR ?_ ?_; · ((try simp (disch := omega) only [w32i, Int.toNat_natCast]) <;> omega))))
      refine Two.ret hv.symm (fin _ _ _ H1 M1 F1 A1 (fun z => ?_))
      exact ⟨fun z => by omega, fun z => by omega, fun z => by omega, fun z => by omega, fun _ => V1 z, fun z => by omega, fun z => by omega, fun z => by omega⟩
    · (repeat (first | with_reducible refine Two.bdL ?_ | with_reducible refine Two.bdR ?_ | (with_reducible refine Two.iL ?_ ?_; · ((try simp (disch := omega) only [w32i, Int.toNat_natCast]) <;> omega)) | (with_reducible refine Two.eL ?_ ?_; · ((try simp (disch := omega) only [w32i, Int.toNat_natCast]) <;> omega)) | (with_reducible refine Two.iR ?_ ?_; · ((try simp (disch := omega) only [w32i, Int.toNat_natCast]) <;> omega)) | (with_reducible refine Two.eR ?_ ?_; · ((try simp (disch := omega) only [w32i, Int.toNat_natCast]) <;> omega))))
      exact Two.ret rfl (fin _ _ _ H1 M1 F1 A1 (fun z => absurd z hv))
end
section
theorem NX.mo {t : Nat} {T c c' : St} {p i : Nat} (h : NX t T c p i) (M : Mo t 192 c c') (hp : p < 192) (hi : i ≤ 64) (htl : c (t + 4) p = 1) (hpl : c (t + 1) p = i) : NX t T c' p i := by
  intro z
  have a := h z
  have m := (M.2.2.2.1 p hp).2.2.2 htl
  have m5 := (m.2.2 (by omega)).1
  refine ⟨fun y => by rw [m5]; exact a.1 y, fun j hj => ?_⟩
  have k := (M.2.2.2.2 p j hp (by omega)).2 (by omega)
  rw [m5, k]
  exact a.2 j hj
/-- whether a number passes the SIEVE's own HEADS -/
theorem L_sieve {t N : Nat} {T : St} {f : Int} {A Hd P Q : St → Int → Int → Option Rs} (IH : AH t T f Hd Q) {p i : Nat} (hp : VP T p) (hk0 : T 19 p ≠ 0) (hi : i < 64) (c0 r0 : St) (hpl : c0 (t + 1) p = i) (num : Int) :
    ∀ (k : Nat) (m : Nat) (c r : St) (j : Int), (k : Int) + j = i → 0 ≤ j → k < m → TI t T c r → Mo t 192 c0 c → Fm r0 r → c 50 2 < f + c 50 3 →
      Two (d_x4_passesOwnHeads_3L N A Hd t m c (p : Int) (i : Int) num j) (d_x8_sieved_3L N P Q m r (p : Int) (i : Int) num j) (fun c' r' v => TI t T c' r' ∧ Mo t 192 c0 c' ∧ Fm r0 r' ∧ An v) := by
  intro k
  induction k with
  | zero =>
    intro m c r j hk hj hm H M F hf
    obtain ⟨m, rfl⟩ : ∃ m', m = m' + 1 := ⟨m - 1, by omega⟩
    show Two (d_x4_passesOwnHeads_3 N A Hd t (d_x4_passesOwnHeads_3L N A Hd t m) c _ _ num j) (d_x8_sieved_3 N P Q (d_x8_sieved_3L N P Q m) r _ _ num j) _
    unfold d_x4_passesOwnHeads_3 d_x8_sieved_3
    (repeat (first | with_reducible refine Two.bdL ?_ | with_reducible refine Two.bdR ?_ | (with_reducible refine Two.iL ?_ ?_; · ((try simp (disch := omega) only [w32i, Int.toNat_natCast]) <;> omega)) | (with_reducible refine Two.eL ?_ ?_; · ((try simp (disch := omega) only [w32i, Int.toNat_natCast]) <;> omega)) | (with_reducible refine Two.iR ?_ ?_; · ((try simp (disch := omega) only [w32i, Int.toNat_natCast]) <;> omega)) | (with_reducible refine Two.eR ?_ ?_; · ((try simp (disch := omega) only [w32i, Int.toNat_natCast]) <;> omega))))
    exact Two.ret rfl ⟨H, M, F, by unfold An; omega⟩
  | succ k ih =>
    intro m c r j hk hj hm H M F hf
    obtain ⟨m, rfl⟩ : ∃ m', m = m' + 1 := ⟨m - 1, by omega⟩
    show Two (d_x4_passesOwnHeads_3 N A Hd t (d_x4_passesOwnHeads_3L N A Hd t m) c _ _ num j) (d_x8_sieved_3 N P Q (d_x8_sieved_3L N P Q m) r _ _ num j) _
    unfold d_x4_passesOwnHeads_3 d_x8_sieved_3
    have hpl' := M.pl p hp.1
    (repeat (first | with_reducible refine Two.bdL ?_ | with_reducible refine Two.bdR ?_ | (with_reducible refine Two.iL ?_ ?_; · ((try simp (disch := omega) only [w32i, Int.toNat_natCast]) <;> omega)) | (with_reducible refine Two.eL ?_ ?_; · ((try simp (disch := omega) only [w32i, Int.toNat_natCast]) <;> omega)) | (with_reducible refine Two.iR ?_ ?_; · ((try simp (disch := omega) only [w32i, Int.toNat_natCast]) <;> omega)) | (with_reducible refine Two.eR ?_ ?_; · ((try simp (disch := omega) only [w32i, Int.toNat_natCast]) <;> omega))))
    refine Two.call (IH c r p _ _ _ _ j H hp rfl rfl rfl rfl ⟨p, res_self hk0, hp.1, by omega, by omega⟩ hf) (fun c1 r1 v1 q1 => ?_)
    obtain ⟨H1, M1, F1, A1, V1⟩ := q1
    have g1 := A1.rng
    by_cases hv : v1 = 1
    · have e := V1 hv
      rw [← e]
      (repeat (first | with_reducible refine Two.bdL ?_ | with_reducible refine Two.bdR ?_ | (with_reducible refine Two.iL ?_ ?_; · ((try simp (disch := omega) only [w32i, Int.toNat_natCast]) <;> omega)) | (with_reducible refine Two.eL ?_ ?_; · ((try simp (disch := omega) only [w32i, Int.toNat_natCast]) <;> omega)) | (with_reducible refine Two.iR ?_ ?_; · ((try simp (disch := omega) only [w32i, Int.toNat_natCast]) <;> omega)) | (with_reducible refine Two.eR ?_ ?_; · ((try simp (disch := omega) only [w32i, Int.toNat_natCast]) <;> omega))))
      by_cases hz : w64 (c1 50 4) = 0
      · refine Two.iL hz (Two.iR hz ?_)
        exact Two.ret rfl ⟨H1, M.trans M1, F.trans F1, by unfold An; omega⟩
      · refine Two.eL hz (Two.eL hz (Two.eR hz (Two.eR hz ?_)))
        by_cases hm0 : w64 (Int.tmod (w64 num) (w64 (c1 50 4))) = 0
        · refine Two.iL hm0 (Two.iR hm0 ?_)
          exact Two.ret rfl ⟨H1, M.trans M1, F.trans F1, by unfold An; omega⟩
        · refine Two.eL hm0 (Two.eR hm0 ?_)
          refine Two.bdL (Two.bdR ?_)
          exact ih m c1 r1 (j + 1) (by omega) (by omega) (by omega) H1 (M.trans M1) (F.trans F1) (M1.f hf)
    · (repeat (first | with_reducible refine Two.bdL ?_ | with_reducible refine Two.bdR ?_ | (with_reducible refine Two.iL ?_ ?_; · ((try simp (disch := omega) only [w32i, Int.toNat_natCast]) <;> omega)) | (with_reducible refine Two.eL ?_ ?_; · ((try simp (disch := omega) only [w32i, Int.toNat_natCast]) <;> omega)) | (with_reducible refine Two.iR ?_ ?_; · ((try simp (disch := omega) only [w32i, Int.toNat_natCast]) <;> omega)) | (with_reducible refine Two.eR ?_ ?_; · ((try simp (disch := omega) only [w32i, Int.toNat_natCast]) <;> omega))))
      exact Two.ret rfl ⟨H1, M.trans M1, F.trans F1, A1.an⟩
/-- the search of KEEP and SIEVE -/
theorem L_seekL {t N : Nat} {T : St} {f : Int} {A Hd P Q : St → Int → Int → Option Rs} (h2 : T2 t) (hN : 100 ≤ N) (IHp : AP t T f A P) (IH : AH t T f Hd Q) {p i : Nat} (hp : VP T p) (hk : T 19 p = 4 ∨ T 19 p = 11) (hi : i < 64) (c0 r0 : St) (hpl : c0 (t + 1) p = i) (htl : c0 (t + 4) p = 1) (hnx : NX t T c0 p i) :
    ∀ (k : Nat) (m : Nat) (c r : St) (j x' : Int), (k : Int) + j = 64 → 0 ≤ j → k + 1 < m → x' = j → TI t T c r → Mo t 192 c0 c → Fm r0 r → c 50 2 < f + c 50 3 →
      Two (d_x4_seekPlace_20L N A Hd t m c (p : Int) (i : Int) ((p + 1 : Nat) : Int) j) (bI (P r ((p : Int) + 1) x') fun s v => d_x8_keeps_34L N P Q m s (p : Int) (i : Int) x' v) (QT t T c0 r0 p i) := by
  intro k
  induction k with
  | zero =>
    intro m c r j x' hk' hj hm hx H M F hf
    subst hx
    obtain ⟨m, rfl⟩ : ∃ m', m = m' + 1 := ⟨m - 1, by omega⟩
    show Two (d_x4_seekPlace_20 N A Hd t (d_x4_seekPlace_20L N A Hd t m) c _ _ _ x') (bI (P r ((p : Int) + 1) x') fun s v => d_x8_keeps_34 N P Q (d_x8_keeps_34L N P Q m) s (p : Int) (i : Int) x' v) _
    unfold d_x4_seekPlace_20
    have n3 := ((H.W.2 p hp).2.2.2.2.2.2.2.2.2.2.2.1 (by omega)).1
    (repeat (first | with_reducible refine Two.bdL ?_ | with_reducible refine Two.bdR ?_ | (with_reducible refine Two.iL ?_ ?_; · ((try simp (disch := omega) only [w32i, Int.toNat_natCast]) <;> omega)) | (with_reducible refine Two.eL ?_ ?_; · ((try simp (disch := omega) only [w32i, Int.toNat_natCast]) <;> omega)) | (with_reducible refine Two.iR ?_ ?_; · ((try simp (disch := omega) only [w32i, Int.toNat_natCast]) <;> omega)) | (with_reducible refine Two.eR ?_ ?_; · ((try simp (disch := omega) only [w32i, Int.toNat_natCast]) <;> omega))))
    refine Two.call (IHp c r (p + 1) _ _ _ _ x' H n3 rfl (by omega) rfl rfl (by omega) (by omega) hf) (fun c1 r1 v1 q1 => ?_)
    obtain ⟨H1, M1, F1, A1, V1⟩ := q1
    have g1 := A1.rng
    have hv : v1 ≠ 1 := by
      intro h
      obtain ⟨q, a1, a2, a3, a4⟩ := V1 h
      have := H1.P a2
      unfold TP at this
      omega
    unfold d_x8_keeps_34
    (repeat (first | with_reducible refine Two.bdL ?_ | with_reducible refine Two.bdR ?_ | (with_reducible refine Two.iL ?_ ?_; · ((try simp (disch := omega) only [w32i, Int.toNat_natCast]) <;> omega)) | (with_reducible refine Two.eL ?_ ?_; · ((try simp (disch := omega) only [w32i, Int.toNat_natCast]) <;> omega)) | (with_reducible refine Two.iR ?_ ?_; · ((try simp (disch := omega) only [w32i, Int.toNat_natCast]) <;> omega)) | (with_reducible refine Two.eR ?_ ?_; · ((try simp (disch := omega) only [w32i, Int.toNat_natCast]) <;> omega)) | unfold d_x4_seekPlace_51))
    exact Two.ret rfl ⟨H1, (M.trans M1).any, F.trans F1, A1, fun z => absurd z hv, fun _ => hnx.mo (M.trans M1) hp.1 (by omega) htl hpl⟩
  | succ k ih =>
    intro m c r j x' hk' hj hm hx H M F hf
    subst hx
    obtain ⟨m, rfl⟩ : ∃ m', m = m' + 1 := ⟨m - 1, by omega⟩
    show Two (d_x4_seekPlace_20 N A Hd t (d_x4_seekPlace_20L N A Hd t m) c _ _ _ x') (bI (P r ((p : Int) + 1) x') fun s v => d_x8_keeps_34 N P Q (d_x8_keeps_34L N P Q m) s (p : Int) (i : Int) x' v) _
    unfold d_x4_seekPlace_20
    have w := H.W.2 p hp
    have w1 := w.1
    have n3 := (w.2.2.2.2.2.2.2.2.2.2.2.1 (by omega)).1
    have hp1 := hp.1
    have e64 : ((p : Int) * 64 + (i : Int)).toNat = 64 * p + i := by omega
    have e64' : (64 * (p : Int) + (i : Int)).toNat = 64 * p + i := by omega
    (repeat (first | with_reducible refine Two.bdL ?_ | with_reducible refine Two.bdR ?_ | (with_reducible refine Two.iL ?_ ?_; · ((try simp (disch := omega) only [w32i, Int.toNat_natCast]) <;> omega)) | (with_reducible refine Two.eL ?_ ?_; · ((try simp (disch := omega) only [w32i, Int.toNat_natCast]) <;> omega)) | (with_reducible refine Two.iR ?_ ?_; · ((try simp (disch := omega) only [w32i, Int.toNat_natCast]) <;> omega)) | (with_reducible refine Two.eR ?_ ?_; · ((try simp (disch := omega) only [w32i, Int.toNat_natCast]) <;> omega))))
    refine Two.call (IHp c r (p + 1) _ _ _ _ x' H n3 rfl (by omega) rfl rfl (by omega) (by omega) hf) (fun c1 r1 v1 q1 => ?_)
    obtain ⟨H1, M1, F1, A1, V1⟩ := q1
    have g1 := A1.rng
    unfold d_x8_keeps_34
    by_cases hv : v1 = 1
    · (repeat (first | with_reducible refine Two.bdL ?_ | with_reducible refine Two.bdR ?_ | (with_reducible refine Two.iL ?_ ?_; · ((try simp (disch := omega) only [w32i, Int.toNat_natCast]) <;> omega)) | (with_reducible refine Two.eL ?_ ?_; · ((try simp (disch := omega) only [w32i, Int.toNat_natCast]) <;> omega)) | (with_reducible refine Two.iR ?_ ?_; · ((try simp (disch := omega) only [w32i, Int.toNat_natCast]) <;> omega)) | (with_reducible refine Two.eR ?_ ?_; · ((try simp (disch := omega) only [w32i, Int.toNat_natCast]) <;> omega))))
      refine Two.call (IH c1 r1 (p + 1) _ _ _ _ x' H1 n3 rfl (by omega) rfl rfl (V1 hv) (M1.f hf)) (fun c2 r2 v2 q2 => ?_)
      obtain ⟨H2, M2, F2, A2, V2⟩ := q2
      have g2 := A2.rng
      have M02 := M.trans (M1.trans M2)
      have F02 := F.trans (F1.trans F2)
      by_cases hv2 : v2 = 1
      · have j19 := H2.ct 19 p (by omega) (by omega)
        have j20 := H2.ct 20 p (by omega) (by omega)
        have j21 := H2.ct 21 p (by omega) (by omega)
        have j79 := H2.rt 79 p (by omega) (by omega)
        have j80 := H2.rt 80 p (by omega) (by omega)
        have j82 := H2.rt 82 p (by omega) (by omega)
        have hV2 := V2 hv2
        have htd := (V1 hv).mo M2.pl
        -- what comes behind the test
        have rest : ∀ (c3 r3 : St) (v3 : Int), TI t T c3 r3 → Mo t 192 c2 c3 → Fm r2 r3 → An v3 → Two (d_x4_seekPlace_115 N A Hd t (d_x4_seekPlace_20L N A Hd t m) c3 (p : Int) (i : Int) ((p + 1 : Nat) : Int) x' v3) (d_x8_keeps_93 N P Q (d_x8_keeps_34L N P Q m) r3 (p : Int) (i : Int) x' v3) (QT t T c0 r0 p i) := by
          intro c3 r3 v3 H3 M3 F3 A3
          have g3 := A3.rng
          have M03 := M02.trans M3
          have F03 := F02.trans F3
          unfold d_x4_seekPlace_115 d_x8_keeps_93
          by_cases hv3 : v3 = 1
          · have hR1 : c3 50 1 = (t : Int) := H3.R.1
            have hw : w8 (w8 x') = x' := by rw [w8i (x := x') (by omega) (by omega), w8i (x := x') (by omega) (by omega)]
            have hR2 : up c3 (t + 9) (64 * p + i) x' 50 1 = (t : Int) := by
              rw [up_ne (by unfold T2 at h2; omega)]
              exact hR1
            refine Two.iL (by ((try simp (disch := omega) only [w32i, Int.toNat_natCast]) <;> omega)) (Two.iL hR1 (Two.iL (by ((try simp (disch := omega) only [w32i, Int.toNat_natCast]) <;> omega)) (Two.bdL ?_)))
            refine Two.iR (by ((try simp (disch := omega) only [w32i, Int.toNat_natCast]) <;> omega)) (Two.iR (by ((try simp (disch := omega) only [w32i, Int.toNat_natCast]) <;> omega)) (Two.bdR ?_))
            rw [w32i (x := (p : Int) * 64 + (i : Int)) (by omega) (by omega), e64, hw, w32i (x := 64 * (p : Int) + (i : Int)) (by omega) (by omega), e64']
            refine Two.iL hR2 (Two.iL (by ((try simp (disch := omega) only [w32i, Int.toNat_natCast]) <;> omega)) (Two.bdL ?_))
            rw [w32i (x := (p : Int)) (by omega) (by omega), Int.toNat_natCast]
            (repeat (first | with_reducible refine Two.bdL ?_ | with_reducible refine Two.bdR ?_ | (with_reducible refine Two.iL ?_ ?_; · ((try simp (disch := omega) only [w32i, Int.toNat_natCast]) <;> omega)) | (with_reducible refine Two.eL ?_ ?_; · ((try simp (disch := omega) only [w32i, Int.toNat_natCast]) <;> omega)) | (with_reducible refine Two.iR ?_ ?_; · ((try simp (disch := omega) only [w32i, Int.toNat_natCast]) <;> omega)) | (with_reducible refine Two.eR ?_ ?_; · ((try simp (disch := omega) only [w32i, Int.toNat_natCast]) <;> omega)) | unfold d_x4_seekPlace_151 | unfold d_x8_keeps_113))
            have htl3 : c3 (t + 4) p = 1 := by rw [(M03.2.2.2.1 p hp1).2.1]; exact htl
            have hpl3 : c3 (t + 1) p = i := by rw [((M03.2.2.2.1 p hp1).2.2.2 htl).1]; exact hpl
            have u := U_kept (c' := up (up c3 (t + 9) (64 * p + i) x') (t + 5) p (x' + 1)) (r' := up r3 93 (64 * p + i) x') h2 H3 hp1 hi htl3 hpl3 (fun a k z1 z2 z3 => by rw [up_app, if_neg z2, up_app, if_neg z1]) (fun a k z1 z2 z3 => by rw [up_app, if_neg z1]) (by rw [up_ne (by omega), up_same]; omega) (fun z => by omega)
            have e9 : up (up c3 (t + 9) (64 * p + i) x') (t + 5) p (x' + 1) (t + 9) (64 * p + i) = x' := by rw [up_ne (by omega), up_same]
            refine Two.ret rfl ⟨u.1, M03.any.trans u.2.1, F03.trans u.2.2, A3, fun _ => ⟨⟨fun _ => ?_, fun z => by omega⟩, ?_, fun _ => ⟨fun z => by omega, fun j hj => ?_⟩⟩, fun z => absurd hv3 z⟩
            · rw [e9, up_same]; omega
            · have htd3 : Td t T (up (up c3 (t + 9) (64 * p + i) x') (t + 5) p (x' + 1)) (p + 1) x' := (htd.mo M3.pl).mo (fun q hq => by rw [up_ne (by omega), up_ne (by omega)]; exact Int.le_refl _)
              refine ⟨fun z => by omega, fun z => by omega, fun z => by omega, fun z => by omega, fun z => by omega, fun _ => ?_, fun z => by omega, fun z => by omega⟩
              rw [e9]
              exact htd3
            · have hj : j = i := by omega
              subst hj
              rw [e9, up_same]
          · by_cases hv0 : v3 = 0
            · (repeat (first | with_reducible refine Two.bdL ?_ | with_reducible refine Two.bdR ?_ | (with_reducible refine Two.iL ?_ ?_; · ((try simp (disch := omega) only [w32i, Int.toNat_natCast]) <;> omega)) | (with_reducible refine Two.eL ?_ ?_; · ((try simp (disch := omega) only [w32i, Int.toNat_natCast]) <;> omega)) | (with_reducible refine Two.iR ?_ ?_; · ((try simp (disch := omega) only [w32i, Int.toNat_natCast]) <;> omega)) | (with_reducible refine Two.eR ?_ ?_; · ((try simp (disch := omega) only [w32i, Int.toNat_natCast]) <;> omega)) | unfold d_x4_seekPlace_151 | unfold d_x8_keeps_113))
              exact ih m c3 r3 (x' + 1) (x' + 1) (by omega) (by omega) (by omega) rfl H3 M03 F03 (M3.f (M2.f (M1.f hf)))
            · (repeat (first | with_reducible refine Two.bdL ?_ | with_reducible refine Two.bdR ?_ | (with_reducible refine Two.iL ?_ ?_; · ((try simp (disch := omega) only [w32i, Int.toNat_natCast]) <;> omega)) | (with_reducible refine Two.eL ?_ ?_; · ((try simp (disch := omega) only [w32i, Int.toNat_natCast]) <;> omega)) | (with_reducible refine Two.iR ?_ ?_; · ((try simp (disch := omega) only [w32i, Int.toNat_natCast]) <;> omega)) | (with_reducible refine Two.eR ?_ ?_; · ((try simp (disch := omega) only [w32i, Int.toNat_natCast]) <;> omega)) | unfold d_x4_seekPlace_151 | unfold d_x8_keeps_113))
              exact Two.ret rfl ⟨H3, M03.any, F03, A3, fun z => absurd z hv3, fun _ => hnx.mo M03 hp1 (by omega) htl hpl⟩
        by_cases hk4 : T 19 p = 4
        · have n1 := w.2.1 (by omega)
          have n10 := w.2.2.2.2.2.2.2.2.2.1 (by omega)
          have hn1 := n1.2
          unfold d_x4_seekPlace_51
          clear n10 n1
          (repeat (first | with_reducible refine Two.bdL ?_ | with_reducible refine Two.bdR ?_ | (with_reducible refine Two.iL ?_ ?_; · ((try simp (disch := omega) only [w32i, Int.toNat_natCast]) <;> omega)) | (with_reducible refine Two.eL ?_ ?_; · ((try simp (disch := omega) only [w32i, Int.toNat_natCast]) <;> omega)) | (with_reducible refine Two.iR ?_ ?_; · ((try simp (disch := omega) only [w32i, Int.toNat_natCast]) <;> omega)) | (with_reducible refine Two.eR ?_ ?_; · ((try simp (disch := omega) only [w32i, Int.toNat_natCast]) <;> omega))))
          rw [w32i (x := (p : Int)) (by omega) (by omega), Int.toNat_natCast, j20, j21]
          have n10 := w.2.2.2.2.2.2.2.2.2.1 (by omega)
          have n1 := w.2.1 (by omega)
          obtain ⟨v3, e1, e2, e3⟩ := J_pass (c := c2) (r := r2) (N := N) (a := c2 50 4) (a' := r2 77 38) hp1 n10 n1.2 (by omega) (by omega) hV2.symm
          refine Two.cL e1 ?_
          refine Two.cR e2 ?_
          exact rest c2 r2 v3 H2 Mo.refl Fm.refl (by unfold An; omega)
        · have hk11 : T 19 p = 11 := by omega
          unfold d_x4_seekPlace_51
          (repeat (first | with_reducible refine Two.bdL ?_ | with_reducible refine Two.bdR ?_ | (with_reducible refine Two.iL ?_ ?_; · ((try simp (disch := omega) only [w32i, Int.toNat_natCast]) <;> omega)) | (with_reducible refine Two.eL ?_ ?_; · ((try simp (disch := omega) only [w32i, Int.toNat_natCast]) <;> omega)) | (with_reducible refine Two.iR ?_ ?_; · ((try simp (disch := omega) only [w32i, Int.toNat_natCast]) <;> omega)) | (with_reducible refine Two.eR ?_ ?_; · ((try simp (disch := omega) only [w32i, Int.toNat_natCast]) <;> omega))))
          rw [hV2]
          unfold d_x4_passesOwnHeads d_x8_sieved
          have hpl2 : c2 (t + 1) p = i := by rw [((M02.2.2.2.1 p hp1).2.2.2 htl).1]; exact hpl
          refine Two.call (L_sieve IH hp (by omega) hi c2 r2 hpl2 (r2 77 38) i N c2 r2 0 (by omega) (by omega) (by omega) H2 Mo.refl Fm.refl (M2.f (M1.f hf))) (fun c3 r3 v3 q3 => ?_)
          exact rest c3 r3 v3 q3.1 q3.2.1 q3.2.2.1 q3.2.2.2
      · (repeat (first | with_reducible refine Two.bdL ?_ | with_reducible refine Two.bdR ?_ | (with_reducible refine Two.iL ?_ ?_; · ((try simp (disch := omega) only [w32i, Int.toNat_natCast]) <;> omega)) | (with_reducible refine Two.eL ?_ ?_; · ((try simp (disch := omega) only [w32i, Int.toNat_natCast]) <;> omega)) | (with_reducible refine Two.iR ?_ ?_; · ((try simp (disch := omega) only [w32i, Int.toNat_natCast]) <;> omega)) | (with_reducible refine Two.eR ?_ ?_; · ((try simp (disch := omega) only [w32i, Int.toNat_natCast]) <;> omega)) | unfold d_x4_seekPlace_51))
        exact Two.ret rfl ⟨H2, M02.any, F02, A2.an, fun z => absurd z hv2, fun _ => hnx.mo M02 hp1 (by omega) htl hpl⟩
    · (repeat (first | with_reducible refine Two.bdL ?_ | with_reducible refine Two.bdR ?_ | (with_reducible refine Two.iL ?_ ?_; · ((try simp (disch := omega) only [w32i, Int.toNat_natCast]) <;> omega)) | (with_reducible refine Two.eL ?_ ?_; · ((try simp (disch := omega) only [w32i, Int.toNat_natCast]) <;> omega)) | (with_reducible refine Two.iR ?_ ?_; · ((try simp (disch := omega) only [w32i, Int.toNat_natCast]) <;> omega)) | (with_reducible refine Two.eR ?_ ?_; · ((try simp (disch := omega) only [w32i, Int.toNat_natCast]) <;> omega)) | unfold d_x4_seekPlace_51))
      exact Two.ret rfl ⟨H1, (M.trans M1).any, F.trans F1, A1, fun z => absurd z hv, fun _ => hnx.mo (M.trans M1) hp1 (by omega) htl hpl⟩
theorem L_seek {t N : Nat} {T c r : St} {f : Int} {A Hd P Q : St → Int → Int → Option Rs} (h2 : T2 t) (hN : 100 ≤ N) (IHp : AP t T f A P) (IH : AH t T f Hd Q) (H : TI t T c r) {p i : Nat} (hp : VP T p) (hk : T 19 p = 4 ∨ T 19 p = 11) (hi : i < 64) (hpl : c (t + 1) p = i) (htl : c (t + 4) p = 1) (hnx : NX t T c p i) (hf : c 50 2 < f + c 50 3) : Two (d_x4_seekPlace N A Hd t c (p : Int) (i : Int)) (d_x8_tellsPlace N P Q r (p : Int) (i : Int)) (QT t T c r p i) := by
  have hp1 := hp.1
  have w := H.W.2 p hp
  have w1 := w.1
  have hR1 : c 50 1 = (t : Int) := H.R.1
  have k79 := H.rt 79 p (by omega) (by omega)
  have hnx' := hnx hk
  have key : ∃ x' : Int, x' = c (t + 5) p ∧ 0 ≤ x' ∧ x' ≤ 64 ∧ d_x8_keeps N P Q r (p : Int) (i : Int) = d_x8_keeps_23 N P Q r (p : Int) (i : Int) x' := by
    unfold d_x8_keeps
    by_cases hi0 : i = 0
    · refine ⟨0, (hnx'.1 (by omega)).symm, by omega, by omega, ?_⟩
      rw [if_pos (by rw [w32i (by omega) (by omega)]; omega)]
    · obtain ⟨j, rfl⟩ : ∃ j, i = j + 1 := ⟨i - 1, by omega⟩
      have a := hnx'.2 j (by omega)
      have b := (H.K hp (i := j) (by omega)).1.1 hk
      refine ⟨c (t + 9) (64 * p + j) + 1, a.symm, by omega, by omega, ?_⟩
      rw [if_neg (by rw [w32i (by omega) (by omega)]; omega), w32i (x := 64 * (p : Int) + ((j + 1 : Nat) : Int) - 1) (by omega) (by omega), if_pos (by omega), show (64 * (p : Int) + ((j + 1 : Nat) : Int) - 1).toNat = 64 * p + j by omega, b.1]
  obtain ⟨x', e1, e2, e3, e4⟩ := key
  have fin : Two (d_x4_seekPlace N A Hd t c (p : Int) (i : Int)) (d_x8_tellsPlace_46 N P Q r (p : Int) (i : Int)) (QT t T c r p i) := by
    unfold d_x4_seekPlace d_x8_tellsPlace_46
    refine Two.tailR ?_
    rw [e4]
    unfold d_x8_keeps_23
    refine Two.cL e_first ?_
    refine Two.iL hR1 (Two.iL (by ((try simp (disch := omega) only [w32i, Int.toNat_natCast]) <;> omega)) (Two.bdL ?_))
    rw [w32i (x := (p : Int)) (by omega) (by omega), Int.toNat_natCast, ← e1]
    exact L_seekL h2 hN IHp IH hp hk hi c r hpl htl hnx (64 - x').toNat N c r x' x' (by omega) (by omega) (by omega) rfl H Mo.refl Fm.refl hf
  unfold d_x8_tellsPlace
  by_cases hk4 : T 19 p = 4
  · (repeat (first | with_reducible refine Two.bdR ?_ | (with_reducible refine Two.iR ?_ ?_; · ((try simp (disch := omega) only [w32i, Int.toNat_natCast]) <;> omega)) | (with_reducible refine Two.eR ?_ ?_; · ((try simp (disch := omega) only [w32i, Int.toNat_natCast]) <;> omega))))
    exact fin
  · (repeat (first | with_reducible refine Two.bdR ?_ | (with_reducible refine Two.iR ?_ ?_; · ((try simp (disch := omega) only [w32i, Int.toNat_natCast]) <;> omega)) | (with_reducible refine Two.eR ?_ ?_; · ((try simp (disch := omega) only [w32i, Int.toNat_natCast]) <;> omega))))
    exact fin
end
