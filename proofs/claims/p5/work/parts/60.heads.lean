/-- the numbers of a CUT, one behind another -/
theorem L_cut {t N : Nat} {T : St} {f : Int} {A Hd P Q : St → Int → Int → Option Rs} (h2 : T2 t) (IH : AH t T f Hd Q) {p i : Nat} (hp : VP T (p + 1)) {num : Int} (hn : 1 ≤ num ∧ num ≤ 9) (hi : i < 64) (c0 r0 : St) (h0 : Td t T c0 (p + 1) (num * (i + 1) - 1)) :
    ∀ (k : Nat) (m : Nat) (c r : St) (j : Int) (sum : Int), (k : Int) + j = num → 0 ≤ j → k < m → TI t T c r → Mo t 192 c0 c → Fm r0 r → c 50 2 < f + c 50 3 →
      Two (d_x4_tellHead_429L N A Hd t m c (i : Int) ((p + 1 : Nat) : Int) num sum j) (d_x8_cuts_14L N P Q m r (p : Int) (i : Int) num sum j) (QH t T c0 r0) := by
  intro k
  induction k with
  | zero =>
    intro m c r j sum hk hj hm H M F hf
    obtain ⟨m, rfl⟩ : ∃ m', m = m' + 1 := ⟨m - 1, by omega⟩
    show Two (d_x4_tellHead_429 N A Hd t (d_x4_tellHead_429L N A Hd t m) c _ _ num sum j) (d_x8_cuts_14 N P Q (d_x8_cuts_14L N P Q m) r _ _ num sum j) _
    unfold d_x4_tellHead_429 d_x8_cuts_14
    refine Two.eL (by ((try simp (disch := omega) only [w32i, Int.toNat_natCast]) <;> omega)) ?_
    refine Two.eR (by ((try simp (disch := omega) only [w32i, Int.toNat_natCast]) <;> omega)) ?_
    refine Two.cL rfl ?_
    refine Two.bdR ?_
    exact Two.ret rfl ((QH.val h2 H rfl).after M F)
  | succ k ih =>
    intro m c r j sum hk hj hm H M F hf
    obtain ⟨m, rfl⟩ : ∃ m', m = m' + 1 := ⟨m - 1, by omega⟩
    show Two (d_x4_tellHead_429 N A Hd t (d_x4_tellHead_429L N A Hd t m) c _ _ num sum j) (d_x8_cuts_14 N P Q (d_x8_cuts_14L N P Q m) r _ _ num sum j) _
    unfold d_x4_tellHead_429 d_x8_cuts_14
    refine Two.iL (by ((try simp (disch := omega) only [w32i, Int.toNat_natCast]) <;> omega)) ?_
    refine Two.iR (by ((try simp (disch := omega) only [w32i, Int.toNat_natCast]) <;> omega)) ?_
    have htd : Td t T c (p + 1) (num * i + j) := by
      obtain ⟨q, a1, a2, a3, a4⟩ := h0
      have := M.pl q a2
      have e : num * ((i : Int) + 1) - 1 = num * i + num - 1 := by rw [Int.mul_add, Int.mul_one]
      have e2 : 0 ≤ num * (i : Int) := Int.mul_nonneg (by omega) (by omega)
      exact ⟨q, a1, a2, by omega, by omega⟩
    refine Two.call (IH c r (p + 1) _ _ _ _ (num * i + j) H hp rfl (by omega) rfl rfl htd hf) (fun c1 r1 v1 q1 => ?_)
    obtain ⟨H1, M1, F1, A1, V1⟩ := q1
    have g1 := A1.rng
    by_cases hv : v1 = 1
    · refine Two.iL (by ((try simp (disch := omega) only [w32i, Int.toNat_natCast]) <;> omega)) ?_
      refine Two.iR (by ((try simp (disch := omega) only [w32i, Int.toNat_natCast]) <;> omega)) ?_
      refine Two.bdL (Two.bdL (Two.bdR (Two.bdR ?_)))
      rw [V1 hv]
      exact ih m c1 r1 (j + 1) _ (by omega) (by omega) (by omega) H1 (M.trans M1) (F.trans F1) (M1.f hf)
    · refine Two.eL (by ((try simp (disch := omega) only [w32i, Int.toNat_natCast]) <;> omega)) ?_
      refine Two.eR (by ((try simp (disch := omega) only [w32i, Int.toNat_natCast]) <;> omega)) ?_
      exact Two.ret rfl ⟨H1, M.trans M1, F.trans F1, A1, fun z => absurd z hv⟩
/-- a HEAD is told -/
theorem L_head {t N : Nat} {T c r : St} {f : Int} {A Hd P Q : St → Int → Int → Option Rs} (h2 : T2 t) (hN : 100 ≤ N) (IH : AH t T f Hd Q) (H : TI t T c r) {p i : Nat} (hp : VP T p) (hk0 : T 19 p ≠ 0) (hi : (i : Int) < c (t + 1) p) (hf : c 50 2 < f + c 50 3) : Two (d_x4_tellHead N A Hd t c (p : Int) (i : Int)) (d_x8_tellsHead N P Q r (p : Int) (i : Int)) (QH t T c r) := by
  have hp1 := hp.1
  have w := H.W.2 p hp
  have w1 := w.1
  have k19 := H.ct 19 p (by omega) (by omega)
  have k20 := H.ct 20 p (by omega) (by omega)
  have k21 := H.ct 21 p (by omega) (by omega)
  have k22 := H.ct 22 p (by omega) (by omega)
  have k79 := H.rt 79 p (by omega) (by omega)
  have k80 := H.rt 80 p (by omega) (by omega)
  have k82 := H.rt 82 p (by omega) (by omega)
  have k83 := H.rt 83 p (by omega) (by omega)
  have hR1 : c 50 1 = (t : Int) := H.R.1
  have hi64 : i < 64 := by
    have hpl := H.P hp1
    unfold TP at hpl
    omega
  have e64 : ((p : Int) * 64 + (i : Int)).toNat = 64 * p + i := by omega
  have e64' : (64 * (p : Int) + (i : Int)).toNat = 64 * p + i := by omega
  have e8 : ((p : Int) * 8 + (i : Int)).toNat = 8 * p + i := by omega
  have e8' : (8 * (p : Int) + (i : Int)).toNat = 8 * p + i := by omega
  obtain ⟨hK, hS⟩ := H.K hp hi
  have hB := H.B (64 * p + i) (by omega)
  have hkind : T 19 p = 1 ∨ T 19 p = 2 ∨ T 19 p = 3 ∨ T 19 p = 4 ∨ T 19 p = 5 ∨ T 19 p = 6 ∨ T 19 p = 7 ∨ T 19 p = 8 ∨ T 19 p = 9 ∨ T 19 p = 10 ∨ T 19 p = 11 ∨ T 19 p = 12 ∨ T 19 p = 13 := by omega
  have k19' : c 19 p = T 79 p := by omega
  unfold d_x4_tellHead d_x8_tellsHead
  refine Two.cL e_first ?_
  have hg : 0 ≤ w32 ((p : Int) * 64 + (i : Int)) ∧ w32 ((p : Int) * 64 + (i : Int)) < ((12288 : Nat) : Int) := (by ((try simp (disch := omega) only [w32i, Int.toNat_natCast]) <;> omega))
  have hg1 : 0 ≤ w32 (p : Int) ∧ w32 (p : Int) < ((192 : Nat) : Int) := (by ((try simp (disch := omega) only [w32i, Int.toNat_natCast]) <;> omega))
  refine Two.iL hg1 (Two.bdL (Two.iL hR1 (Two.iL hg (Two.bdL (Two.iL hg1 (Two.iR hg1 (Two.bdR ?_)))))))
  rw [w32i (x := (p : Int)) (by omega) (by omega), Int.toNat_natCast, w32i (x := (p : Int) * 64 + (i : Int)) (by omega) (by omega), e64, k79, w1.1, k19, k21, w32i (x := T 19 p) (by omega) (by omega), w32i (x := (i : Int)) (by omega) (by omega)]
  rcases hkind with hk | hk | hk | hk | hk | hk | hk | hk | hk | hk | hk | hk | hk <;> rw [hk]
  · -- FROM
    have n1 := w.2.1 (by omega)
    have n2 := w.2.2.2.1 hk
    (repeat (first | with_reducible refine Two.bdL ?_ | with_reducible refine Two.bdR ?_ | (with_reducible refine Two.iL ?_ ?_; · ((try simp (disch := omega) only [w32i, Int.toNat_natCast]) <;> omega)) | (with_reducible refine Two.eL ?_ ?_; · ((try simp (disch := omega) only [w32i, Int.toNat_natCast]) <;> omega)) | (with_reducible refine Two.iR ?_ ?_; · ((try simp (disch := omega) only [w32i, Int.toNat_natCast]) <;> omega)) | (with_reducible refine Two.eR ?_ ?_; · ((try simp (disch := omega) only [w32i, Int.toNat_natCast]) <;> omega)) | unfold d_x8_tellsHead_27 | unfold d_x8_tellsHead_77))
    refine Two.cL rfl ?_
    refine Two.ret rfl (QH.val h2 H ?_)
    simp (disch := omega) only [w32i, Int.toNat_natCast, k22, k82, k83, n1.1, n2.1]
  · -- LIST
    have n1 := w.2.2.2.2.1 hk
    have n2 := hS.2.2.2.2.2.2.2 hk
    have n3 := n1.2.2 i n2
    have k25 := H.ct 25 (8 * p + i) (by omega) (by omega)
    have k85 := H.rt 85 (8 * p + i) (by omega) (by omega)
    (repeat (first | with_reducible refine Two.bdL ?_ | with_reducible refine Two.bdR ?_ | (with_reducible refine Two.iL ?_ ?_; · ((try simp (disch := omega) only [w32i, Int.toNat_natCast]) <;> omega)) | (with_reducible refine Two.eL ?_ ?_; · ((try simp (disch := omega) only [w32i, Int.toNat_natCast]) <;> omega)) | (with_reducible refine Two.iR ?_ ?_; · ((try simp (disch := omega) only [w32i, Int.toNat_natCast]) <;> omega)) | (with_reducible refine Two.eR ?_ ?_; · ((try simp (disch := omega) only [w32i, Int.toNat_natCast]) <;> omega)) | unfold d_x8_tellsHead_27 | unfold d_x8_tellsHead_77 | unfold d_x4_tellHead_159))
    refine Two.cL rfl ?_
    refine Two.ret rfl (QH.val h2 H ?_)
    simp (disch := omega) only [w32i, e8, e8', k25, k85, n3]
  · -- MAP
    have n1 := w.2.1 (by omega)
    have n2 := w.2.2.2.2.2.2.2.2.1 (by omega)
    have n3 := (w.2.2.2.2.2.2.2.2.2.2.2.1 (by omega)).1
    have n4 := hS.1 (by omega)
    (repeat (first | with_reducible refine Two.bdL ?_ | with_reducible refine Two.bdR ?_ | (with_reducible refine Two.iL ?_ ?_; · ((try simp (disch := omega) only [w32i, Int.toNat_natCast]) <;> omega)) | (with_reducible refine Two.eL ?_ ?_; · ((try simp (disch := omega) only [w32i, Int.toNat_natCast]) <;> omega)) | (with_reducible refine Two.iR ?_ ?_; · ((try simp (disch := omega) only [w32i, Int.toNat_natCast]) <;> omega)) | (with_reducible refine Two.eR ?_ ?_; · ((try simp (disch := omega) only [w32i, Int.toNat_natCast]) <;> omega)) | unfold d_x8_tellsHead_82 | unfold d_x8_tellsHead_185 | unfold d_x8_tellsHead_186 | unfold d_x8_tellsHead_239))
    refine Two.call (IH c r (p + 1) _ _ _ _ i H n3 rfl (by omega) rfl rfl n4 hf) (fun c1 r1 v1 q1 => ?_)
    obtain ⟨H1, M1, F1, A1, V1⟩ := q1
    have g1 := A1.rng
    have j20 := H1.ct 20 p (by omega) (by omega)
    have j80 := H1.rt 80 p (by omega) (by omega)
    have j82 := H1.rt 82 p (by omega) (by omega)
    by_cases hv : v1 = 1
    · (repeat (first | with_reducible refine Two.bdL ?_ | with_reducible refine Two.bdR ?_ | (with_reducible refine Two.iL ?_ ?_; · ((try simp (disch := omega) only [w32i, Int.toNat_natCast]) <;> omega)) | (with_reducible refine Two.eL ?_ ?_; · ((try simp (disch := omega) only [w32i, Int.toNat_natCast]) <;> omega)) | (with_reducible refine Two.iR ?_ ?_; · ((try simp (disch := omega) only [w32i, Int.toNat_natCast]) <;> omega)) | (with_reducible refine Two.eR ?_ ?_; · ((try simp (disch := omega) only [w32i, Int.toNat_natCast]) <;> omega)) | unfold d_x8_tellsHead_242 | unfold d_x8_tellsHead_269 | unfold d_x8_tellsHead_306 | unfold d_x8_tellsHead_341))
      refine Two.tail (Two.mono (J_comb h2 H1 (by ((try simp (disch := omega) only [w32i, Int.toNat_natCast]) <;> omega)) (by ((try simp (disch := omega) only [w32i, Int.toNat_natCast]) <;> omega)) (V1 hv).symm (by ((try simp (disch := omega) only [w32i, Int.toNat_natCast]) <;> omega))) (fun _ _ _ q => q.after M1 F1))
    · (repeat (first | with_reducible refine Two.bdL ?_ | with_reducible refine Two.bdR ?_ | (with_reducible refine Two.iL ?_ ?_; · ((try simp (disch := omega) only [w32i, Int.toNat_natCast]) <;> omega)) | (with_reducible refine Two.eL ?_ ?_; · ((try simp (disch := omega) only [w32i, Int.toNat_natCast]) <;> omega)) | (with_reducible refine Two.iR ?_ ?_; · ((try simp (disch := omega) only [w32i, Int.toNat_natCast]) <;> omega)) | (with_reducible refine Two.eR ?_ ?_; · ((try simp (disch := omega) only [w32i, Int.toNat_natCast]) <;> omega)) | unfold d_x8_tellsHead_242))
      exact Two.ret rfl ⟨H1, M1, F1, A1, fun z => absurd z hv⟩
  · -- KEEP
    have n3 := (w.2.2.2.2.2.2.2.2.2.2.2.1 (by omega)).1
    have n4 := hS.2.2.2.2.2.1 (by omega)
    have n5 := hK.1 (by omega)
    (repeat (first | with_reducible refine Two.bdL ?_ | with_reducible refine Two.bdR ?_ | (with_reducible refine Two.iL ?_ ?_; · ((try simp (disch := omega) only [w32i, Int.toNat_natCast, e64']) <;> omega)) | (with_reducible refine Two.eL ?_ ?_; · ((try simp (disch := omega) only [w32i, Int.toNat_natCast, e64']) <;> omega)) | (with_reducible refine Two.iR ?_ ?_; · ((try simp (disch := omega) only [w32i, Int.toNat_natCast, e64']) <;> omega)) | (with_reducible refine Two.eR ?_ ?_; · ((try simp (disch := omega) only [w32i, Int.toNat_natCast, e64']) <;> omega)) | unfold d_x8_tellsHead_82 | unfold d_x8_tellsHead_106))
    exact Two.tail (IH c r (p + 1) _ _ _ _ _ H n3 rfl (by omega) rfl (by simp (disch := omega) only [w32i, e64'] <;> omega) n4 hf)
  · -- WHILE
    have n3 := (w.2.2.2.2.2.2.2.2.2.2.2.1 (by omega)).1
    have n4 := hS.1 (by omega)
    (repeat (first | with_reducible refine Two.bdL ?_ | with_reducible refine Two.bdR ?_ | (with_reducible refine Two.iL ?_ ?_; · ((try simp (disch := omega) only [w32i, Int.toNat_natCast]) <;> omega)) | (with_reducible refine Two.eL ?_ ?_; · ((try simp (disch := omega) only [w32i, Int.toNat_natCast]) <;> omega)) | (with_reducible refine Two.iR ?_ ?_; · ((try simp (disch := omega) only [w32i, Int.toNat_natCast]) <;> omega)) | (with_reducible refine Two.eR ?_ ?_; · ((try simp (disch := omega) only [w32i, Int.toNat_natCast]) <;> omega)) | unfold d_x8_tellsHead_82 | unfold d_x8_tellsHead_185 | unfold d_x8_tellsHead_186 | unfold d_x8_tellsHead_239))
    refine Two.call (IH c r (p + 1) _ _ _ _ i H n3 rfl (by omega) rfl rfl n4 hf) (fun c1 r1 v1 q1 => ?_)
    obtain ⟨H1, M1, F1, A1, V1⟩ := q1
    have g1 := A1.rng
    by_cases hv : v1 = 1
    · (repeat (first | with_reducible refine Two.bdL ?_ | with_reducible refine Two.bdR ?_ | (with_reducible refine Two.iL ?_ ?_; · ((try simp (disch := omega) only [w32i, Int.toNat_natCast]) <;> omega)) | (with_reducible refine Two.eL ?_ ?_; · ((try simp (disch := omega) only [w32i, Int.toNat_natCast]) <;> omega)) | (with_reducible refine Two.iR ?_ ?_; · ((try simp (disch := omega) only [w32i, Int.toNat_natCast]) <;> omega)) | (with_reducible refine Two.eR ?_ ?_; · ((try simp (disch := omega) only [w32i, Int.toNat_natCast]) <;> omega)) | unfold d_x8_tellsHead_242))
      exact Two.ret rfl ⟨H1, M1, F1, A1, V1⟩
    · (repeat (first | with_reducible refine Two.bdL ?_ | with_reducible refine Two.bdR ?_ | (with_reducible refine Two.iL ?_ ?_; · ((try simp (disch := omega) only [w32i, Int.toNat_natCast]) <;> omega)) | (with_reducible refine Two.eL ?_ ?_; · ((try simp (disch := omega) only [w32i, Int.toNat_natCast]) <;> omega)) | (with_reducible refine Two.iR ?_ ?_; · ((try simp (disch := omega) only [w32i, Int.toNat_natCast]) <;> omega)) | (with_reducible refine Two.eR ?_ ?_; · ((try simp (disch := omega) only [w32i, Int.toNat_natCast]) <;> omega)) | unfold d_x8_tellsHead_242))
      exact Two.ret rfl ⟨H1, M1, F1, A1, V1⟩
  · -- ZIP
    have n2 := w.2.2.2.2.2.2.2.2.1 (by omega)
    have n3 := (w.2.2.2.2.2.2.2.2.2.2.2.1 (by omega)).1
    have n6 := (w.2.2.2.2.2.2.2.2.2.2.2.2 (by omega)).1
    have n4 := hS.1 (by omega)
    have n5 := hS.2.1 (by omega)
    (repeat (first | with_reducible refine Two.bdL ?_ | with_reducible refine Two.bdR ?_ | (with_reducible refine Two.iL ?_ ?_; · ((try simp (disch := omega) only [w32i, Int.toNat_natCast]) <;> omega)) | (with_reducible refine Two.eL ?_ ?_; · ((try simp (disch := omega) only [w32i, Int.toNat_natCast]) <;> omega)) | (with_reducible refine Two.iR ?_ ?_; · ((try simp (disch := omega) only [w32i, Int.toNat_natCast]) <;> omega)) | (with_reducible refine Two.eR ?_ ?_; · ((try simp (disch := omega) only [w32i, Int.toNat_natCast]) <;> omega)) | unfold d_x8_tellsHead_82 | unfold d_x8_tellsHead_185 | unfold d_x8_tellsHead_186 | unfold d_x8_tellsHead_239))
    refine Two.call (IH c r (p + 1) _ _ _ _ i H n3 rfl (by omega) rfl rfl n4 hf) (fun c1 r1 v1 q1 => ?_)
    obtain ⟨H1, M1, F1, A1, V1⟩ := q1
    have g1 := A1.rng
    by_cases hv : v1 = 1
    · (repeat (first | with_reducible refine Two.bdL ?_ | with_reducible refine Two.bdR ?_ | (with_reducible refine Two.iL ?_ ?_; · ((try simp (disch := omega) only [w32i, Int.toNat_natCast]) <;> omega)) | (with_reducible refine Two.eL ?_ ?_; · ((try simp (disch := omega) only [w32i, Int.toNat_natCast]) <;> omega)) | (with_reducible refine Two.iR ?_ ?_; · ((try simp (disch := omega) only [w32i, Int.toNat_natCast]) <;> omega)) | (with_reducible refine Two.eR ?_ ?_; · ((try simp (disch := omega) only [w32i, Int.toNat_natCast]) <;> omega)) | unfold d_x8_tellsHead_242 | unfold d_x8_tellsHead_269))
      refine Two.cL (e_second H1.ct H1.W n3) ?_
      refine Two.cR (e_other H1.rt H1.W n3) ?_
      unfold d_x8_tellsHead_302
      refine Two.call (IH c1 r1 _ _ _ _ _ i H1 n6 rfl rfl rfl rfl (n5.mo M1.pl) (M1.f hf)) (fun c2 r2 v2 q2 => ?_)
      obtain ⟨H2, M2, F2, A2, V2⟩ := q2
      have g2 := A2.rng
      have j20 := H2.ct 20 p (by omega) (by omega)
      have j80 := H2.rt 80 p (by omega) (by omega)
      by_cases hv2 : v2 = 1
      · (repeat (first | with_reducible refine Two.bdL ?_ | with_reducible refine Two.bdR ?_ | (with_reducible refine Two.iL ?_ ?_; · ((try simp (disch := omega) only [w32i, Int.toNat_natCast]) <;> omega)) | (with_reducible refine Two.eL ?_ ?_; · ((try simp (disch := omega) only [w32i, Int.toNat_natCast]) <;> omega)) | (with_reducible refine Two.iR ?_ ?_; · ((try simp (disch := omega) only [w32i, Int.toNat_natCast]) <;> omega)) | (with_reducible refine Two.eR ?_ ?_; · ((try simp (disch := omega) only [w32i, Int.toNat_natCast]) <;> omega)) | unfold d_x8_tellsHead_306 | unfold d_x8_tellsHead_341))
        refine Two.tail (Two.mono (J_comb h2 H2 (by ((try simp (disch := omega) only [w32i, Int.toNat_natCast]) <;> omega)) (by ((try simp (disch := omega) only [w32i, Int.toNat_natCast]) <;> omega)) (V1 hv).symm (V2 hv2).symm) (fun _ _ _ q => q.after (M1.trans M2) (F1.trans F2)))
      · (repeat (first | with_reducible refine Two.bdL ?_ | with_reducible refine Two.bdR ?_ | (with_reducible refine Two.iL ?_ ?_; · ((try simp (disch := omega) only [w32i, Int.toNat_natCast]) <;> omega)) | (with_reducible refine Two.eL ?_ ?_; · ((try simp (disch := omega) only [w32i, Int.toNat_natCast]) <;> omega)) | (with_reducible refine Two.iR ?_ ?_; · ((try simp (disch := omega) only [w32i, Int.toNat_natCast]) <;> omega)) | (with_reducible refine Two.eR ?_ ?_; · ((try simp (disch := omega) only [w32i, Int.toNat_natCast]) <;> omega)) | unfold d_x8_tellsHead_306))
        exact Two.ret rfl ⟨H2, M1.trans M2, F1.trans F2, A2, fun z => absurd z hv2⟩
    · (repeat (first | with_reducible refine Two.bdL ?_ | with_reducible refine Two.bdR ?_ | (with_reducible refine Two.iL ?_ ?_; · ((try simp (disch := omega) only [w32i, Int.toNat_natCast]) <;> omega)) | (with_reducible refine Two.eL ?_ ?_; · ((try simp (disch := omega) only [w32i, Int.toNat_natCast]) <;> omega)) | (with_reducible refine Two.iR ?_ ?_; · ((try simp (disch := omega) only [w32i, Int.toNat_natCast]) <;> omega)) | (with_reducible refine Two.eR ?_ ?_; · ((try simp (disch := omega) only [w32i, Int.toNat_natCast]) <;> omega)) | unfold d_x8_tellsHead_242))
      exact Two.ret rfl ⟨H1, M1, F1, A1, fun z => absurd z hv⟩
  · -- MERGE
    have n3 := (w.2.2.2.2.2.2.2.2.2.2.2.1 (by omega)).1
    have n6 := (w.2.2.2.2.2.2.2.2.2.2.2.2 (by omega)).1
    have n4 := hS.2.2.2.2.2.2.1 hk
    have n5 := hK.2 hk
    rcases n5 with n5 | n5
    · have e2 : Int.tmod (2 * c (t + 9) (64 * p + i)) 2 = 0 := by rw [Int.tmod_eq_emod_of_nonneg (by omega)]; omega
      have e3 : Int.tdiv (2 * c (t + 9) (64 * p + i)) 2 = c (t + 9) (64 * p + i) := by rw [Int.tdiv_eq_ediv_of_nonneg (by omega)]; omega
      (repeat (first | with_reducible refine Two.bdL ?_ | with_reducible refine Two.bdR ?_ | (with_reducible refine Two.iL ?_ ?_; · ((try simp (disch := omega) only [w32i, Int.toNat_natCast, e64', n5.2.2, e2]) <;> omega)) | (with_reducible refine Two.eL ?_ ?_; · ((try simp (disch := omega) only [w32i, Int.toNat_natCast, e64', n5.2.2, e2]) <;> omega)) | (with_reducible refine Two.iR ?_ ?_; · ((try simp (disch := omega) only [w32i, Int.toNat_natCast, e64', n5.2.2, e2]) <;> omega)) | (with_reducible refine Two.eR ?_ ?_; · ((try simp (disch := omega) only [w32i, Int.toNat_natCast, e64', n5.2.2, e2]) <;> omega)) | unfold d_x8_tellsHead_82 | unfold d_x8_tellsHead_163))
      exact Two.tail (IH c r (p + 1) _ _ _ _ _ H n3 rfl (by omega) rfl (by simp (disch := omega) only [w32i, e64', n5.2.2, e3]) (n4.1 (by omega)) hf)
    · have e2 : Int.tmod (2 * (c (t + 9) (64 * p + i) - 64) + 1) 2 = 1 := by rw [Int.tmod_eq_emod_of_nonneg (by omega)]; omega
      have e3 : Int.tdiv (2 * (c (t + 9) (64 * p + i) - 64) + 1) 2 = c (t + 9) (64 * p + i) - 64 := by rw [Int.tdiv_eq_ediv_of_nonneg (by omega)]; omega
      (repeat (first | with_reducible refine Two.bdL ?_ | with_reducible refine Two.bdR ?_ | (with_reducible refine Two.iL ?_ ?_; · ((try simp (disch := omega) only [w32i, Int.toNat_natCast, e64', n5.2.2, e2]) <;> omega)) | (with_reducible refine Two.eL ?_ ?_; · ((try simp (disch := omega) only [w32i, Int.toNat_natCast, e64', n5.2.2, e2]) <;> omega)) | (with_reducible refine Two.iR ?_ ?_; · ((try simp (disch := omega) only [w32i, Int.toNat_natCast, e64', n5.2.2, e2]) <;> omega)) | (with_reducible refine Two.eR ?_ ?_; · ((try simp (disch := omega) only [w32i, Int.toNat_natCast, e64', n5.2.2, e2]) <;> omega)) | unfold d_x8_tellsHead_82))
      refine Two.cL (e_second H.ct H.W n3) ?_
      refine Two.cR (e_other H.rt H.W n3) ?_
      (repeat (first | with_reducible refine Two.bdL ?_ | with_reducible refine Two.bdR ?_ | (with_reducible refine Two.iL ?_ ?_; · ((try simp (disch := omega) only [w32i, Int.toNat_natCast]) <;> omega)) | (with_reducible refine Two.eL ?_ ?_; · ((try simp (disch := omega) only [w32i, Int.toNat_natCast]) <;> omega)) | (with_reducible refine Two.iR ?_ ?_; · ((try simp (disch := omega) only [w32i, Int.toNat_natCast]) <;> omega)) | (with_reducible refine Two.eR ?_ ?_; · ((try simp (disch := omega) only [w32i, Int.toNat_natCast]) <;> omega)) | unfold d_x8_tellsHead_163))
      exact Two.tail (IH c r _ _ _ _ _ _ H n6 rfl rfl rfl (by simp (disch := omega) only [w32i, e64', n5.2.2, e3]) (n4.2 (by omega)) hf)
  · -- TAKE
    have n3 := (w.2.2.2.2.2.2.2.2.2.2.2.1 (by omega)).1
    have n4 := hS.1 (by omega)
    (repeat (first | with_reducible refine Two.bdL ?_ | with_reducible refine Two.bdR ?_ | (with_reducible refine Two.iL ?_ ?_; · ((try simp (disch := omega) only [w32i, Int.toNat_natCast]) <;> omega)) | (with_reducible refine Two.eL ?_ ?_; · ((try simp (disch := omega) only [w32i, Int.toNat_natCast]) <;> omega)) | (with_reducible refine Two.iR ?_ ?_; · ((try simp (disch := omega) only [w32i, Int.toNat_natCast]) <;> omega)) | (with_reducible refine Two.eR ?_ ?_; · ((try simp (disch := omega) only [w32i, Int.toNat_natCast]) <;> omega)) | unfold d_x8_tellsHead_82 | unfold d_x8_tellsHead_185 | unfold d_x8_tellsHead_186 | unfold d_x8_tellsHead_239))
    refine Two.call (IH c r (p + 1) _ _ _ _ i H n3 rfl (by omega) rfl rfl n4 hf) (fun c1 r1 v1 q1 => ?_)
    obtain ⟨H1, M1, F1, A1, V1⟩ := q1
    have g1 := A1.rng
    by_cases hv : v1 = 1
    · (repeat (first | with_reducible refine Two.bdL ?_ | with_reducible refine Two.bdR ?_ | (with_reducible refine Two.iL ?_ ?_; · ((try simp (disch := omega) only [w32i, Int.toNat_natCast]) <;> omega)) | (with_reducible refine Two.eL ?_ ?_; · ((try simp (disch := omega) only [w32i, Int.toNat_natCast]) <;> omega)) | (with_reducible refine Two.iR ?_ ?_; · ((try simp (disch := omega) only [w32i, Int.toNat_natCast]) <;> omega)) | (with_reducible refine Two.eR ?_ ?_; · ((try simp (disch := omega) only [w32i, Int.toNat_natCast]) <;> omega)) | unfold d_x8_tellsHead_242))
      exact Two.ret rfl ⟨H1, M1, F1, A1, V1⟩
    · (repeat (first | with_reducible refine Two.bdL ?_ | with_reducible refine Two.bdR ?_ | (with_reducible refine Two.iL ?_ ?_; · ((try simp (disch := omega) only [w32i, Int.toNat_natCast]) <;> omega)) | (with_reducible refine Two.eL ?_ ?_; · ((try simp (disch := omega) only [w32i, Int.toNat_natCast]) <;> omega)) | (with_reducible refine Two.iR ?_ ?_; · ((try simp (disch := omega) only [w32i, Int.toNat_natCast]) <;> omega)) | (with_reducible refine Two.eR ?_ ?_; · ((try simp (disch := omega) only [w32i, Int.toNat_natCast]) <;> omega)) | unfold d_x8_tellsHead_242))
      exact Two.ret rfl ⟨H1, M1, F1, A1, V1⟩
  · -- DROP
    have n1 := w.2.1 (by omega)
    have n7 := w.2.2.2.2.2.2.1 (by omega)
    have n3 := (w.2.2.2.2.2.2.2.2.2.2.2.1 (by omega)).1
    have n4 := hS.2.2.1 (by omega)
    (repeat (first | with_reducible refine Two.bdL ?_ | with_reducible refine Two.bdR ?_ | (with_reducible refine Two.iL ?_ ?_; · ((try simp (disch := omega) only [w32i, Int.toNat_natCast]) <;> omega)) | (with_reducible refine Two.eL ?_ ?_; · ((try simp (disch := omega) only [w32i, Int.toNat_natCast]) <;> omega)) | (with_reducible refine Two.iR ?_ ?_; · ((try simp (disch := omega) only [w32i, Int.toNat_natCast]) <;> omega)) | (with_reducible refine Two.eR ?_ ?_; · ((try simp (disch := omega) only [w32i, Int.toNat_natCast]) <;> omega)) | unfold d_x8_tellsHead_82 | unfold d_x8_tellsHead_185 | unfold d_x8_tellsHead_186 | unfold d_x8_tellsHead_239))
    refine Two.call (IH c r (p + 1) _ _ _ _ (i + T 21 p) H n3 rfl (by omega) (by ((try simp (disch := omega) only [w32i, Int.toNat_natCast]) <;> omega)) (by ((try simp (disch := omega) only [w32i, Int.toNat_natCast]) <;> omega)) n4 hf) (fun c1 r1 v1 q1 => ?_)
    obtain ⟨H1, M1, F1, A1, V1⟩ := q1
    have g1 := A1.rng
    by_cases hv : v1 = 1
    · (repeat (first | with_reducible refine Two.bdL ?_ | with_reducible refine Two.bdR ?_ | (with_reducible refine Two.iL ?_ ?_; · ((try simp (disch := omega) only [w32i, Int.toNat_natCast]) <;> omega)) | (with_reducible refine Two.eL ?_ ?_; · ((try simp (disch := omega) only [w32i, Int.toNat_natCast]) <;> omega)) | (with_reducible refine Two.iR ?_ ?_; · ((try simp (disch := omega) only [w32i, Int.toNat_natCast]) <;> omega)) | (with_reducible refine Two.eR ?_ ?_; · ((try simp (disch := omega) only [w32i, Int.toNat_natCast]) <;> omega)) | unfold d_x8_tellsHead_242))
      exact Two.ret rfl ⟨H1, M1, F1, A1, V1⟩
    · (repeat (first | with_reducible refine Two.bdL ?_ | with_reducible refine Two.bdR ?_ | (with_reducible refine Two.iL ?_ ?_; · ((try simp (disch := omega) only [w32i, Int.toNat_natCast]) <;> omega)) | (with_reducible refine Two.eL ?_ ?_; · ((try simp (disch := omega) only [w32i, Int.toNat_natCast]) <;> omega)) | (with_reducible refine Two.iR ?_ ?_; · ((try simp (disch := omega) only [w32i, Int.toNat_natCast]) <;> omega)) | (with_reducible refine Two.eR ?_ ?_; · ((try simp (disch := omega) only [w32i, Int.toNat_natCast]) <;> omega)) | unfold d_x8_tellsHead_242))
      exact Two.ret rfl ⟨H1, M1, F1, A1, V1⟩
  · -- SCAN
    have n2 := w.2.2.2.2.2.2.2.2.1 (by omega)
    have n3 := (w.2.2.2.2.2.2.2.2.2.2.2.1 (by omega)).1
    have n4 := hS.1 (by omega)
    by_cases hi0 : i = 0
    · (repeat (first | with_reducible refine Two.bdL ?_ | with_reducible refine Two.bdR ?_ | (with_reducible refine Two.iL ?_ ?_; · ((try simp (disch := omega) only [w32i, Int.toNat_natCast]) <;> omega)) | (with_reducible refine Two.eL ?_ ?_; · ((try simp (disch := omega) only [w32i, Int.toNat_natCast]) <;> omega)) | (with_reducible refine Two.iR ?_ ?_; · ((try simp (disch := omega) only [w32i, Int.toNat_natCast]) <;> omega)) | (with_reducible refine Two.eR ?_ ?_; · ((try simp (disch := omega) only [w32i, Int.toNat_natCast]) <;> omega)) | unfold d_x8_tellsHead_82 | unfold d_x8_tellsHead_185 | unfold d_x8_tellsHead_186 | unfold d_x8_tellsHead_239))
      refine Two.call (IH c r (p + 1) _ _ _ _ i H n3 rfl (by omega) (by omega) rfl n4 hf) (fun c1 r1 v1 q1 => ?_)
      obtain ⟨H1, M1, F1, A1, V1⟩ := q1
      have g1 := A1.rng
      by_cases hv : v1 = 1
      · (repeat (first | with_reducible refine Two.bdL ?_ | with_reducible refine Two.bdR ?_ | (with_reducible refine Two.iL ?_ ?_; · ((try simp (disch := omega) only [w32i, Int.toNat_natCast]) <;> omega)) | (with_reducible refine Two.eL ?_ ?_; · ((try simp (disch := omega) only [w32i, Int.toNat_natCast]) <;> omega)) | (with_reducible refine Two.iR ?_ ?_; · ((try simp (disch := omega) only [w32i, Int.toNat_natCast]) <;> omega)) | (with_reducible refine Two.eR ?_ ?_; · ((try simp (disch := omega) only [w32i, Int.toNat_natCast]) <;> omega)) | unfold d_x8_tellsHead_242))
        exact Two.ret rfl ⟨H1, M1, F1, A1, V1⟩
      · (repeat (first | with_reducible refine Two.bdL ?_ | with_reducible refine Two.bdR ?_ | (with_reducible refine Two.iL ?_ ?_; · ((try simp (disch := omega) only [w32i, Int.toNat_natCast]) <;> omega)) | (with_reducible refine Two.eL ?_ ?_; · ((try simp (disch := omega) only [w32i, Int.toNat_natCast]) <;> omega)) | (with_reducible refine Two.iR ?_ ?_; · ((try simp (disch := omega) only [w32i, Int.toNat_natCast]) <;> omega)) | (with_reducible refine Two.eR ?_ ?_; · ((try simp (disch := omega) only [w32i, Int.toNat_natCast]) <;> omega)) | unfold d_x8_tellsHead_242))
        exact Two.ret rfl ⟨H1, M1, F1, A1, V1⟩
    · (repeat (first | with_reducible refine Two.bdL ?_ | with_reducible refine Two.bdR ?_ | (with_reducible refine Two.iL ?_ ?_; · ((try simp (disch := omega) only [w32i, Int.toNat_natCast]) <;> omega)) | (with_reducible refine Two.eL ?_ ?_; · ((try simp (disch := omega) only [w32i, Int.toNat_natCast]) <;> omega)) | (with_reducible refine Two.iR ?_ ?_; · ((try simp (disch := omega) only [w32i, Int.toNat_natCast]) <;> omega)) | (with_reducible refine Two.eR ?_ ?_; · ((try simp (disch := omega) only [w32i, Int.toNat_natCast]) <;> omega)) | unfold d_x8_tellsHead_82 | unfold d_x8_tellsHead_186))
      refine Two.call (IH c r p _ _ _ _ ((i : Int) - 1) H hp rfl rfl rfl rfl ⟨p, res_self hk0, hp1, by omega, by omega⟩ hf) (fun c1 r1 v1 q1 => ?_)
      obtain ⟨H1, M1, F1, A1, V1⟩ := q1
      have g1 := A1.rng
      by_cases hv : v1 = 1
      · (repeat (first | with_reducible refine Two.bdL ?_ | with_reducible refine Two.bdR ?_ | (with_reducible refine Two.iL ?_ ?_; · ((try simp (disch := omega) only [w32i, Int.toNat_natCast]) <;> omega)) | (with_reducible refine Two.eL ?_ ?_; · ((try simp (disch := omega) only [w32i, Int.toNat_natCast]) <;> omega)) | (with_reducible refine Two.iR ?_ ?_; · ((try simp (disch := omega) only [w32i, Int.toNat_natCast]) <;> omega)) | (with_reducible refine Two.eR ?_ ?_; · ((try simp (disch := omega) only [w32i, Int.toNat_natCast]) <;> omega)) | unfold d_x8_tellsHead_242 | unfold d_x8_tellsHead_269))
        unfold d_x8_tellsHead_302
        refine Two.call (IH c1 r1 (p + 1) _ _ _ _ i H1 n3 rfl (by omega) rfl rfl (n4.mo M1.pl) (M1.f hf)) (fun c2 r2 v2 q2 => ?_)
        obtain ⟨H2, M2, F2, A2, V2⟩ := q2
        have g2 := A2.rng
        have j20 := H2.ct 20 p (by omega) (by omega)
        have j80 := H2.rt 80 p (by omega) (by omega)
        by_cases hv2 : v2 = 1
        · (repeat (first | with_reducible refine Two.bdL ?_ | with_reducible refine Two.bdR ?_ | (with_reducible refine Two.iL ?_ ?_; · ((try simp (disch := omega) only [w32i, Int.toNat_natCast]) <;> omega)) | (with_reducible refine Two.eL ?_ ?_; · ((try simp (disch := omega) only [w32i, Int.toNat_natCast]) <;> omega)) | (with_reducible refine Two.iR ?_ ?_; · ((try simp (disch := omega) only [w32i, Int.toNat_natCast]) <;> omega)) | (with_reducible refine Two.eR ?_ ?_; · ((try simp (disch := omega) only [w32i, Int.toNat_natCast]) <;> omega)) | unfold d_x8_tellsHead_306 | unfold d_x8_tellsHead_341))
          refine Two.tail (Two.mono (J_comb h2 H2 (by ((try simp (disch := omega) only [w32i, Int.toNat_natCast]) <;> omega)) (by ((try simp (disch := omega) only [w32i, Int.toNat_natCast]) <;> omega)) (V1 hv).symm (V2 hv2).symm) (fun _ _ _ q => q.after (M1.trans M2) (F1.trans F2)))
        · (repeat (first | with_reducible refine Two.bdL ?_ | with_reducible refine Two.bdR ?_ | (with_reducible refine Two.iL ?_ ?_; · ((try simp (disch := omega) only [w32i, Int.toNat_natCast]) <;> omega)) | (with_reducible refine Two.eL ?_ ?_; · ((try simp (disch := omega) only [w32i, Int.toNat_natCast]) <;> omega)) | (with_reducible refine Two.iR ?_ ?_; · ((try simp (disch := omega) only [w32i, Int.toNat_natCast]) <;> omega)) | (with_reducible refine Two.eR ?_ ?_; · ((try simp (disch := omega) only [w32i, Int.toNat_natCast]) <;> omega)) | unfold d_x8_tellsHead_306))
          exact Two.ret rfl ⟨H2, M1.trans M2, F1.trans F2, A2, fun z => absurd z hv2⟩
      · (repeat (first | with_reducible refine Two.bdL ?_ | with_reducible refine Two.bdR ?_ | (with_reducible refine Two.iL ?_ ?_; · ((try simp (disch := omega) only [w32i, Int.toNat_natCast]) <;> omega)) | (with_reducible refine Two.eL ?_ ?_; · ((try simp (disch := omega) only [w32i, Int.toNat_natCast]) <;> omega)) | (with_reducible refine Two.iR ?_ ?_; · ((try simp (disch := omega) only [w32i, Int.toNat_natCast]) <;> omega)) | (with_reducible refine Two.eR ?_ ?_; · ((try simp (disch := omega) only [w32i, Int.toNat_natCast]) <;> omega)) | unfold d_x8_tellsHead_242))
        exact Two.ret rfl ⟨H1, M1, F1, A1, fun z => absurd z hv⟩
  · -- SIEVE
    have n3 := (w.2.2.2.2.2.2.2.2.2.2.2.1 (by omega)).1
    have n4 := hS.2.2.2.2.2.1 (by omega)
    have n5 := hK.1 (by omega)
    (repeat (first | with_reducible refine Two.bdL ?_ | with_reducible refine Two.bdR ?_ | (with_reducible refine Two.iL ?_ ?_; · ((try simp (disch := omega) only [w32i, Int.toNat_natCast, e64']) <;> omega)) | (with_reducible refine Two.eL ?_ ?_; · ((try simp (disch := omega) only [w32i, Int.toNat_natCast, e64']) <;> omega)) | (with_reducible refine Two.iR ?_ ?_; · ((try simp (disch := omega) only [w32i, Int.toNat_natCast, e64']) <;> omega)) | (with_reducible refine Two.eR ?_ ?_; · ((try simp (disch := omega) only [w32i, Int.toNat_natCast, e64']) <;> omega)) | unfold d_x8_tellsHead_82 | unfold d_x8_tellsHead_106))
    exact Two.tail (IH c r (p + 1) _ _ _ _ _ H n3 rfl (by omega) rfl (by simp (disch := omega) only [w32i, e64'] <;> omega) n4 hf)
  · -- CONS
    have n1 := w.2.1 (by omega)
    have n3 := (w.2.2.2.2.2.2.2.2.2.2.2.1 (by omega)).1
    by_cases hi0 : i = 0
    · (repeat (first | with_reducible refine Two.bdL ?_ | with_reducible refine Two.bdR ?_ | (with_reducible refine Two.iL ?_ ?_; · ((try simp (disch := omega) only [w32i, Int.toNat_natCast]) <;> omega)) | (with_reducible refine Two.eL ?_ ?_; · ((try simp (disch := omega) only [w32i, Int.toNat_natCast]) <;> omega)) | (with_reducible refine Two.iR ?_ ?_; · ((try simp (disch := omega) only [w32i, Int.toNat_natCast]) <;> omega)) | (with_reducible refine Two.eR ?_ ?_; · ((try simp (disch := omega) only [w32i, Int.toNat_natCast]) <;> omega)) | unfold d_x8_tellsHead_27 | unfold d_x8_tellsHead_77))
      refine Two.cL rfl ?_
      refine Two.ret rfl (QH.val h2 H ?_)
      simp (disch := omega) only [w32i, Int.toNat_natCast, k82, n1.1]
    · have n4 := hS.2.2.2.1 hk (by omega)
      (repeat (first | with_reducible refine Two.bdL ?_ | with_reducible refine Two.bdR ?_ | (with_reducible refine Two.iL ?_ ?_; · ((try simp (disch := omega) only [w32i, Int.toNat_natCast]) <;> omega)) | (with_reducible refine Two.eL ?_ ?_; · ((try simp (disch := omega) only [w32i, Int.toNat_natCast]) <;> omega)) | (with_reducible refine Two.iR ?_ ?_; · ((try simp (disch := omega) only [w32i, Int.toNat_natCast]) <;> omega)) | (with_reducible refine Two.eR ?_ ?_; · ((try simp (disch := omega) only [w32i, Int.toNat_natCast]) <;> omega)) | unfold d_x8_tellsHead_82 | unfold d_x8_tellsHead_185 | unfold d_x8_tellsHead_186 | unfold d_x8_tellsHead_239))
      refine Two.call (IH c r (p + 1) _ _ _ _ ((i : Int) - 1) H n3 rfl (by omega) rfl rfl n4 hf) (fun c1 r1 v1 q1 => ?_)
      obtain ⟨H1, M1, F1, A1, V1⟩ := q1
      have g1 := A1.rng
      by_cases hv : v1 = 1
      · (repeat (first | with_reducible refine Two.bdL ?_ | with_reducible refine Two.bdR ?_ | (with_reducible refine Two.iL ?_ ?_; · ((try simp (disch := omega) only [w32i, Int.toNat_natCast]) <;> omega)) | (with_reducible refine Two.eL ?_ ?_; · ((try simp (disch := omega) only [w32i, Int.toNat_natCast]) <;> omega)) | (with_reducible refine Two.iR ?_ ?_; · ((try simp (disch := omega) only [w32i, Int.toNat_natCast]) <;> omega)) | (with_reducible refine Two.eR ?_ ?_; · ((try simp (disch := omega) only [w32i, Int.toNat_natCast]) <;> omega)) | unfold d_x8_tellsHead_242))
        exact Two.ret rfl ⟨H1, M1, F1, A1, V1⟩
      · (repeat (first | with_reducible refine Two.bdL ?_ | with_reducible refine Two.bdR ?_ | (with_reducible refine Two.iL ?_ ?_; · ((try simp (disch := omega) only [w32i, Int.toNat_natCast]) <;> omega)) | (with_reducible refine Two.eL ?_ ?_; · ((try simp (disch := omega) only [w32i, Int.toNat_natCast]) <;> omega)) | (with_reducible refine Two.iR ?_ ?_; · ((try simp (disch := omega) only [w32i, Int.toNat_natCast]) <;> omega)) | (with_reducible refine Two.eR ?_ ?_; · ((try simp (disch := omega) only [w32i, Int.toNat_natCast]) <;> omega)) | unfold d_x8_tellsHead_242))
        exact Two.ret rfl ⟨H1, M1, F1, A1, V1⟩
  · -- CUT
    have n1 := w.2.1 (by omega)
    have n8 := w.2.2.2.2.2.2.2.1 hk
    have n3 := (w.2.2.2.2.2.2.2.2.2.2.2.1 (by omega)).1
    have n4 := hS.2.2.2.2.1 hk
    (repeat (first | with_reducible refine Two.bdL ?_ | with_reducible refine Two.bdR ?_ | (with_reducible refine Two.iL ?_ ?_; · ((try simp (disch := omega) only [w32i, Int.toNat_natCast]) <;> omega)) | (with_reducible refine Two.eL ?_ ?_; · ((try simp (disch := omega) only [w32i, Int.toNat_natCast]) <;> omega)) | (with_reducible refine Two.iR ?_ ?_; · ((try simp (disch := omega) only [w32i, Int.toNat_natCast]) <;> omega)) | (with_reducible refine Two.eR ?_ ?_; · ((try simp (disch := omega) only [w32i, Int.toNat_natCast]) <;> omega)) | unfold d_x8_tellsHead_82))
    refine Two.tailR ?_
    unfold d_x8_cuts
    refine Two.iR hg1 (Two.bdR ?_)
    rw [w32i (x := (p : Int)) (by omega) (by omega), Int.toNat_natCast, k82, n1.1]
    exact L_cut h2 IH n3 n8 hi64 c r n4 (T 21 p).toNat N c r 0 0 (by omega) (by omega) (by omega) H Mo.refl Fm.refl hf
