theorem om_len {T : St} {p : Nat} (n : Nat) : (jt n (om T p)).length ≤ 2 := by
  unfold om
  split
  · exact Nat.zero_le _
  · exact sg_len _ _
theorem nm_len {T : St} {p : Nat} (n : Nat) : (jt n (nm T p)).length ≤ 22 := by
  unfold nm
  split
  · exact nt_len _ _
  · exact Nat.zero_le _
theorem sc_len {T : St} {p : Nat} (n : Nat) : (jt n (sc T p)).length ≤ 22 := by
  unfold sc
  split
  · exact nt_len _ _
  · exact Nat.zero_le _
theorem tl5 : ∀ i : Fin 14, i.val ≠ 0 → (tl i.val).length ≤ 5 ∧ ((i.val = 1 ∨ i.val = 2) → (tl i.val).length ≤ 4) := by decide +kernel
theorem kw_len {T : St} {p : Nat} (h : 0 ≤ T 19 p ∧ T 19 p ≤ 13) (n : Nat) : (jt n [kw T p]).length ≤ 6 ∧ (T 19 p = 0 → (jt n [kw T p]).length ≤ 2) ∧ (T 19 p = 1 ∨ T 19 p = 2 → (jt n [kw T p]).length ≤ 5) := by
  rw [jt_1, List.length_append]
  have hb := bk_len n
  unfold kw
  by_cases e : T 19 p = 0
  · rw [if_pos e]
    have : ([97 + T 21 p] : List Int).length = 1 := rfl
    omega
  · rw [if_neg e]
    have h5 := tl5 ⟨(T 19 p).toNat, by omega⟩ (by show (T 19 p).toNat ≠ 0; omega)
    have h51 : (tl (T 19 p).toNat).length ≤ 5 := h5.1
    have h52 : ((T 19 p).toNat = 1 ∨ (T 19 p).toNat = 2) → (tl (T 19 p).toNat).length ≤ 4 := h5.2
    refine ⟨by omega, by omega, fun z => ?_⟩
    have := h52 (by omega)
    omega
/-- the model prints a part -/
theorem m_part {N : Nat} (hN : 5000 ≤ N) {k7 : St → Int → Int → Option Rs} {T r : St} {n s i : Nat} (hs : s < 8) (hi : i < 24) (w : WFp T (24 * s + i)) (h78 : (i : Int) < T 78 s ∧ T 78 s ≤ 24) (h : PM T r n) (hn : n + 500 < 4000) : d_x8_prints_7 N k7 r (s : Int) (i : Int) = k7 (laM r n (jt n (tp T (24 * s + i)))) (s : Int) ((i : Int) + 1) := by
  have ws : w32 (s : Int) = s := w32i (by omega) (by omega)
  have wi : w32 (i : Int) = i := w32i (by omega) (by omega)
  have w78 : w32 (T 78 s) = T 78 s := w32i (by omega) (by omega)
  have gs : 0 ≤ (s : Int) ∧ (s : Int) < ((8 : Nat) : Int) := by omega
  have w1 := w.1
  have w2 := w.2.1
  have w11 := w.2.2.2.2.2.2.2.2.2.2.1
  have w9 := w.2.2.2.2.2.2.2.2.1
  have w10 := w.2.2.2.2.2.2.2.2.2.1
  have w4 := w.2.2.2.1
  have w5 := w.2.2.2.2.1
  have w6 := w.2.2.2.2.2.1
  rw [tp_eq w]
  obtain ⟨p, hpe⟩ : ∃ p, p = 24 * s + i := ⟨_, rfl⟩
  have hpi : 24 * (s : Int) + (i : Int) = (p : Int) := by omega
  have hp : p < 192 := by omega
  rw [← hpe] at w w1 w2 w4 w5 w6 w9 w10 w11 ⊢
  have hk := (kw_len (T := T) (p := p) (by omega) n).1
  have ho := om_len (T := T) (p := p) (n + (jt n [kw T p]).length)
  have l1 : (jt n ([kw T p] ++ om T p)).length ≤ 8 := by rw [jt_app, List.length_append]; omega
  have hq := nm_len (T := T) (p := p) (n + (jt n ([kw T p] ++ om T p)).length)
  have l2 : (jt n ([kw T p] ++ om T p ++ nm T p)).length ≤ 30 := by rw [jt_app, List.length_append]; omega
  have hz := sc_len (T := T) (p := p) (n + (jt n ([kw T p] ++ om T p ++ nm T p)).length)
  have l3 : (jt n ([kw T p] ++ om T p ++ nm T p ++ sc T p)).length ≤ 52 := by rw [jt_app, List.length_append]; omega
  have g : 0 ≤ (p : Int) ∧ (p : Int) < ((192 : Nat) : Int) := by omega
  have wp : w32 (p : Int) = p := w32i (by omega) (by omega)
  have w24 : 0 ≤ T 24 p ∧ T 24 p ≤ 8 := by
    by_cases e : T 19 p = 2
    · have := w5 e; omega
    · have := w6 e; omega
  have c4 : ∀ x2 : Int, d_x8_prints_94 N k7 (laM r n (jt n ([kw T p] ++ om T p ++ nm T p ++ sc T p))) (s : Int) x2 (p : Int) = k7 (laM r n (jt n ([kw T p] ++ om T p ++ nm T p ++ sc T p ++ lt T p (T 24 p).toNat))) (s : Int) (x2 + 1) := by
    intro x2
    refine m_list hN hp h.1 (by omega) (by omega) (fun j hj => ?_) (by omega)
    by_cases e : T 19 p = 2
    · exact (w5 e).2.2 j (by omega)
    · have := w6 e; omega
  have c3 : ∀ x2 : Int, d_x8_prints_74 N k7 (laM r n (jt n ([kw T p] ++ om T p ++ nm T p))) (s : Int) x2 (p : Int) = d_x8_prints_94 N k7 (laM r n (jt n ([kw T p] ++ om T p ++ nm T p ++ sc T p))) (s : Int) x2 (p : Int) := by
    intro x2
    unfold d_x8_prints_74
    rw [wp, if_pos g, Int.toNat_natCast, laM_o (by omega) (by omega), h.1 79 p (by omega) (by omega), w1.1, w32i (x := T 19 p) (by omega) (by omega)]
    by_cases e : T 19 p = 1
    · have hsc : sc T p = nt (T 22 p) := by unfold sc; rw [if_pos e]
      rw [if_pos e, if_pos g, laM_o (by omega) (by omega), h.1 83 p (by omega) (by omega), (w4 e).1, m_num hN (by omega), bV_some, hsc]
    · have hsc : sc T p = [] := by unfold sc; rw [if_neg e]
      rw [if_neg e, hsc, List.append_nil]
  have c2 : ∀ x2 : Int, d_x8_prints_52 N k7 (laM r n (jt n ([kw T p] ++ om T p))) (s : Int) x2 (p : Int) = d_x8_prints_74 N k7 (laM r n (jt n ([kw T p] ++ om T p ++ nm T p))) (s : Int) x2 (p : Int) := by
    intro x2
    unfold d_x8_prints_52
    rw [wp, if_pos g, Int.toNat_natCast, laM_o (by omega) (by omega), h.1 79 p (by omega) (by omega), w1.1]
    by_cases e : nb (T 19 p)
    · have hnm : nm T p = nt (T 21 p) := by unfold nm; unfold nb at e; rw [if_pos e]
      have h82 := (w2 (by unfold nb at e; omega)).1
      rw [(e_in8 (by omega)).1 e, bI_some, if_neg (by decide), if_pos g, laM_o (by omega) (by omega), h.1 82 p (by omega) (by omega), h82, m_num hN (by omega), bV_some, hnm]
    · have hnm : nm T p = [] := by unfold nm; unfold nb at e; rw [if_neg e]
      rw [(e_in8 (by omega)).2 e, bI_some, if_pos (by decide), hnm, List.append_nil]
  unfold d_x8_prints_7
  rw [ws, if_pos gs, Int.toNat_natCast, h.1 78 s (by decide) (by decide), wi, w78, if_pos h78.1, bd_eq, hpi, m_kind hp w h (by omega), bV_some, wp, if_pos g, Int.toNat_natCast, laM_o (by omega) (by omega), h.1 80 p (by omega) (by omega), w1.2.1]
  have h20 : r32 (T 20 p) := by
    unfold r32
    by_cases a : T 19 p = 3 ∨ T 19 p = 6 ∨ T 19 p = 10
    · have := w9 a; omega
    · by_cases b : T 19 p = 4 ∨ T 19 p = 5
      · have := w10 b; omega
      · have := w11 (by omega); omega
  rw [w32r h20]
  by_cases e : T 20 p = 0
  · have hom : om T p = [] := by unfold om; rw [if_pos e]
    have c2' := c2 (i : Int)
    rw [hom, List.append_nil] at c2'
    rw [if_pos e, c2', hom, List.append_nil]
    have c3' := c3 (i : Int)
    have c4' := c4 (i : Int)
    rw [hom, List.append_nil] at c3' c4'
    rw [c3', c4']
  · have hom : om T p = [[T 20 p]] := by unfold om; rw [if_neg e]
    rw [if_neg e, if_pos g, m_wd ⟨h20, e⟩ (by omega), bV_some, ← hom, c2, c3, c4]
/-- a part's bytes -/
theorem tp_len {T : St} {p : Nat} (w : WFp T p) (hv : T 19 p = 2 → ∀ i : Nat, (i : Int) < T 24 p → -9999 ≤ T 25 (8 * p + i) ∧ T 25 (8 * p + i) ≤ 9999) (n : Nat) : ((jt n (tp T p)).length : Int) ≤ 7 * tk T p := by
  have w1 := w.1
  have w2 := w.2.1
  have w4 := w.2.2.2.1
  have w5 := w.2.2.2.2.1
  have w6 := w.2.2.2.2.2.1
  have w11 := w.2.2.2.2.2.2.2.2.2.2.1
  rw [tp_eq w]
  have q : ∀ A B : List (List Int), ∃ m, (jt n (A ++ B)).length = (jt n A).length + (jt m B).length := fun A B => ⟨_, by rw [jt_app, List.length_append]⟩
  obtain ⟨hk1, hk2, hk3⟩ := kw_len (T := T) (p := p) (by omega) n
  obtain ⟨m4, q4⟩ := q ([kw T p] ++ om T p ++ nm T p ++ sc T p) (lt T p (T 24 p).toNat)
  obtain ⟨m3, q3⟩ := q ([kw T p] ++ om T p ++ nm T p) (sc T p)
  obtain ⟨m2, q2⟩ := q ([kw T p] ++ om T p) (nm T p)
  obtain ⟨m1, q1⟩ := q ([kw T p]) (om T p)
  have ho := om_len (T := T) (p := p) m1
  have ho0 : T 20 p = 0 → (jt m1 (om T p)).length = 0 := by
    intro z
    unfold om
    rw [if_pos z]
    rfl
  have hq : (jt m2 (nm T p)).length ≤ 7 ∧ (¬ nb (T 19 p) → (jt m2 (nm T p)).length = 0) := by
    unfold nm nb
    split
    · rename_i z
      exact ⟨nt_len4 ⟨(w2 (by omega)).2.1, (w2 (by omega)).2.2⟩ _, fun y => absurd z y⟩
    · exact ⟨Nat.zero_le _, fun _ => rfl⟩
  have hz : (jt m3 (sc T p)).length ≤ 7 ∧ (T 19 p ≠ 1 → (jt m3 (sc T p)).length = 0) := by
    unfold sc
    split
    · rename_i z
      exact ⟨nt_len4 ⟨(w4 z).2.1, (w4 z).2.2⟩ _, fun y => absurd z y⟩
    · exact ⟨Nat.zero_le _, fun _ => rfl⟩
  have hl : ((jt m4 (lt T p (T 24 p).toNat)).length : Int) ≤ 9 * T 24 p := by
    by_cases e : T 19 p = 2
    · have := w5 e
      have := lt_len4 (T := T) (p := p) (T 24 p).toNat m4 (fun i hi => hv e i (by omega))
      omega
    · have e0 := w6 e
      rw [e0]
      exact Int.le_refl 0
  generalize (jt n [kw T p]).length = lk at *
  generalize (jt m1 (om T p)).length = lo at *
  generalize (jt m2 (nm T p)).length = ln at *
  generalize (jt m3 (sc T p)).length = ls at *
  generalize (jt m4 (lt T p (T 24 p).toNat)).length = ll at *
  rw [q4, q3, q2, q1]
  clear q4 q3 q2 q1 q
  unfold nb at hq
  unfold tk
  by_cases a1 : T 19 p = 0 ∨ T 19 p = 7 ∨ T 19 p = 11
  · have := w6 (by omega)
    have := ho0 (w11 (by omega))
    have := hq.2 (by omega)
    have := hz.2 (by omega)
    rw [if_pos a1]
    omega
  · rw [if_neg a1]
    by_cases a2 : T 19 p = 1 ∨ T 19 p = 3 ∨ T 19 p = 4 ∨ T 19 p = 5
    · have := w6 (by omega)
      rw [if_pos a2]
      by_cases a3 : T 19 p = 1
      · have := ho0 (w11 (by omega))
        omega
      · have := hz.2 a3
        omega
    · rw [if_neg a2]
      have := hz.2 (by omega)
      by_cases a3 : T 19 p = 2
      · have := w5 a3
        have := ho0 (w11 (by omega))
        have := hq.2 (by omega)
        rw [if_pos a3]
        omega
      · rw [if_neg a3]
        have := w6 a3
        by_cases a4 : T 19 p = 6 ∨ T 19 p = 10
        · have := hq.2 (by omega)
          omega
        · have := ho0 (w11 (by omega))
          omega
