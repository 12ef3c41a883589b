section
theorem om_len {T : St} {p : Nat} (n : Nat) : (jt n (om T p)).length ≤ 2 := by
  unfold om
  split
  · exact Nat.zero_le _
  · exact sg_len _ _
theorem nm_len {T : St} {p : Nat} (n : Nat) : (jt n (nm T p)).length ≤ 22 := by
  unfold nm
  split
  · exact nt_len _ _
  · exact Nat.zero_le _
theorem sc_len {T : St} {p : Nat} (n : Nat) : (jt n (sc T p)).length ≤ 22 := by
  unfold sc
  split
  · exact nt_len _ _
  · exact Nat.zero_le _
theorem tl5 : ∀ i : Fin 14, i.val ≠ 0 → (tl i.val).length ≤ 5 ∧ ((i.val = 1 ∨ i.val = 2) → (tl i.val).length ≤ 4) := by decide +kernel
theorem kw_len {T : St} {p : Nat} (h : 0 ≤ T 19 p ∧ T 19 p ≤ 13) (n : Nat) : (jt n [kw T p]).length ≤ 6 ∧ (T 19 p = 0 → (jt n [kw T p]).length ≤ 2) ∧ (T 19 p = 1 ∨ T 19 p = 2 → (jt n [kw T p]).length ≤ 5) := by
  rw [jt_1, List.length_append]
  have hb := bk_len n
  unfold kw
  by_cases e : T 19 p = 0
  · rw [if_pos e]
    have : ([97 + T 21 p] : List Int).length = 1 := rfl
    omega
  · rw [if_neg e]
    have h5 := tl5 ⟨(T 19 p).toNat, by omega⟩ (by show (T 19 p).toNat ≠ 0; omega)
    have h51 : (tl (T 19 p).toNat).length ≤ 5 := h5.1
    have h52 : ((T 19 p).toNat = 1 ∨ (T 19 p).toNat = 2) → (tl (T 19 p).toNat).length ≤ 4 := h5.2
    refine ⟨by omega, by omega, fun z => ?_⟩
    have := h52 (by omega)
    omega
/-- the model prints a part -/
theorem m_part {N : Nat} (hN : 5000 ≤ N) {k7 : St → Int → Int → Option Rs} {T r : St} {n s i : Nat} (hs : s < 8) (hi : i < 24) (w : WFp T (24 * s + i)) (h78 : (i : Int) < T 78 s ∧ T 78 s ≤ 24) (h : PM T r n) (hn : n + 500 < 4000) : d_x8_prints_7 N k7 r (s : Int) (i : Int) = k7 (laM r n (jt n (tp T (24 * s + i)))) (s : Int) ((i : Int) + 1) := by
  have ws : w32 (s : Int) = s := w32i (by omega) (by omega)
  have wi : w32 (i : Int) = i := w32i (by omega) (by omega)
  have w78 : w32 (T 78 s) = T 78 s := w32i (by omega) (by omega)
  have gs : 0 ≤ (s : Int) ∧ (s : Int) < ((8 : Nat) : Int) := by omega
  have w1 := w.1
  have w2 := w.2.1
  have w11 := w.2.2.2.2.2.2.2.2.2.2.1
  have w9 := w.2.2.2.2.2.2.2.2.1
  have w10 := w.2.2.2.2.2.2.2.2.2.1
  have w4 := w.2.2.2.1
  have w5 := w.2.2.2.2.1
  have w6 := w.2.2.2.2.2.1
  rw [tp_eq w]
  obtain ⟨p, hpe⟩ : ∃ p, p = 24 * s + i := ⟨_, rfl⟩
  have hpi : 24 * (s : Int) + (i : Int) = (p : Int) := by omega
  have hp : p < 192 := by omega
  rw [← hpe] at w w1 w2 w4 w5 w6 w9 w10 w11 ⊢
  have hk := (kw_len (T := T) (p := p) (by omega) n).1
  have ho := om_len (T := T) (p := p) (n + (jt n [kw T p]).length)
  have l1 : (jt n ([kw T p] ++ om T p)).length ≤ 8 := by rw [jt_app, List.length_append]; omega
  have hq := nm_len (T := T) (p := p) (n + (jt n ([kw T p] ++ om T p)).length)
  have l2 : (jt n ([kw T p] ++ om T p ++ nm T p)).length ≤ 30 := by rw [jt_app, List.length_append]; omega
  have hz := sc_len (T := T) (p := p) (n + (jt n ([kw T p] ++ om T p ++ nm T p)).length)
  have l3 : (jt n ([kw T p] ++ om T p ++ nm T p ++ sc T p)).length ≤ 52 := by rw [jt_app, List.length_append]; omega
  have g : 0 ≤ (p : Int) ∧ (p : Int) < ((192 : Nat) : Int) := by omega
  have wp : w32 (p : Int) = p := w32i (by omega) (by omega)
  have w24 : 0 ≤ T 24 p ∧ T 24 p ≤ 8 := by
    by_cases e : T 19 p = 2
    · have := w5 e; omega
    · have := w6 e; omega
  have c4 : ∀ x2 : Int, d_x8_prints_94 N k7 (laM r n (jt n ([kw T p] ++ om T p ++ nm T p ++ sc T p))) (s : Int) x2 (p : Int) = k7 (laM r n (jt n ([kw T p] ++ om T p ++ nm T p ++ sc T p ++ lt T p (T 24 p).toNat))) (s : Int) (x2 + 1) := by
    intro x2
    refine m_list hN hp h.1 (by omega) (by omega) (fun j hj => ?_) (by omega)
    by_cases e : T 19 p = 2
    · exact (w5 e).2.2 j (by omega)
    · have := w6 e; omega
  have c3 : ∀ x2 : Int, d_x8_prints_74 N k7 (laM r n (jt n ([kw T p] ++ om T p ++ nm T p))) (s : Int) x2 (p : Int) = d_x8_prints_94 N k7 (laM r n (jt n ([kw T p] ++ om T p ++ nm T p ++ sc T p))) (s : Int) x2 (p : Int) := by
    intro x2
    unfold d_x8_prints_74
    rw [wp, if_pos g, Int.toNat_natCast, laM_o (by omega) (by omega), h.1 79 p (by omega) (by omega), w1.1, w32i (x := T 19 p) (by omega) (by omega)]
    by_cases e : T 19 p = 1
    · have hsc : sc T p = nt (T 22 p) := by unfold sc; rw [if_pos e]
      rw [if_pos e, if_pos g, laM_o (by omega) (by omega), h.1 83 p (by omega) (by omega), (w4 e).1, m_num hN (by omega), bV_some, hsc]
    · have hsc : sc T p = [] := by unfold sc; rw [if_neg e]
      rw [if_neg e, hsc, List.append_nil]
  have c2 : ∀ x2 : Int, d_x8_prints_52 N k7 (laM r n (jt n ([kw T p] ++ om T p))) (s : Int) x2 (p : Int) = d_x8_prints_74 N k7 (laM r n (jt n ([kw T p] ++ om T p ++ nm T p))) (s : Int) x2 (p : Int) := by
    intro x2
    unfold d_x8_prints_52
    rw [wp, if_pos g, Int.toNat_natCast, laM_o (by omega) (by omega), h.1 79 p (by omega) (by omega), w1.1]
    by_cases e : nb (T 19 p)
    · have hnm : nm T p = nt (T 21 p) := by unfold nm; unfold nb at e; rw [if_pos e]
      have h82 := (w2 (by unfold nb at e; omega)).1
      rw [(e_in8 (by omega)).1 e, bI_some, if_neg (by decide), if_pos g, laM_o (by omega) (by omega), h.1 82 p (by omega) (by omega), h82, m_num hN (by omega), bV_some, hnm]
    · have hnm : nm T p = [] := by unfold nm; unfold nb at e; rw [if_neg e]
      rw [(e_in8 (by omega)).2 e, bI_some, if_pos (by decide), hnm, List.append_nil]
  unfold d_x8_prints_7
  rw [ws, if_pos gs, Int.toNat_natCast, h.1 78 s (by decide) (by decide), wi, w78, if_pos h78.1, bd_eq, hpi, m_kind hp w h (by omega), bV_some, wp, if_pos g, Int.toNat_natCast, laM_o (by omega) (by omega), h.1 80 p (by omega) (by omega), w1.2.1]
  have h20 : r32 (T 20 p) := by
    unfold r32
    by_cases a : T 19 p = 3 ∨ T 19 p = 6 ∨ T 19 p = 10
    · have := w9 a; omega
    · by_cases b : T 19 p = 4 ∨ T 19 p = 5
      · have := w10 b; omega
      · have := w11 (by omega); omega
  rw [w32r h20]
  by_cases e : T 20 p = 0
  · have hom : om T p = [] := by unfold om; rw [if_pos e]
    have c2' := c2 (i : Int)
    rw [hom, List.append_nil] at c2'
    rw [if_pos e, c2', hom, List.append_nil]
    have c3' := c3 (i : Int)
    have c4' := c4 (i : Int)
    rw [hom, List.append_nil] at c3' c4'
    rw [c3', c4']
  · have hom : om T p = [[T 20 p]] := by unfold om; rw [if_neg e]
    rw [if_neg e, if_pos g, m_wd ⟨h20, e⟩ (by omega), bV_some, ← hom, c2, c3, c4]
/-- a part's bytes -/
theorem tp_len {T : St} {p : Nat} (w : WFp T p) (hv : T 19 p = 2 → ∀ i : Nat, (i : Int) < T 24 p → -9999 ≤ T 25 (8 * p + i) ∧ T 25 (8 * p + i) ≤ 9999) (n : Nat) : ((jt n (tp T p)).length : Int) ≤ 7 * tk T p := by
  have w1 := w.1
  have w2 := w.2.1
  have w4 := w.2.2.2.1
  have w5 := w.2.2.2.2.1
  have w6 := w.2.2.2.2.2.1
  have w11 := w.2.2.2.2.2.2.2.2.2.2.1
  rw [tp_eq w]
  have q : ∀ A B : List (List Int), ∃ m, (jt n (A ++ B)).length = (jt n A).length + (jt m B).length := fun A B => ⟨_, by rw [jt_app, List.length_append]⟩
  obtain ⟨hk1, hk2, hk3⟩ := kw_len (T := T) (p := p) (by omega) n
  obtain ⟨m4, q4⟩ := q ([kw T p] ++ om T p ++ nm T p ++ sc T p) (lt T p (T 24 p).toNat)
  obtain ⟨m3, q3⟩ := q ([kw T p] ++ om T p ++ nm T p) (sc T p)
  obtain ⟨m2, q2⟩ := q ([kw T p] ++ om T p) (nm T p)
  obtain ⟨m1, q1⟩ := q ([kw T p]) (om T p)
  have ho := om_len (T := T) (p := p) m1
  have ho0 : T 20 p = 0 → (jt m1 (om T p)).length = 0 := by
    intro z
    unfold om
    rw [if_pos z]
    rfl
  have hq : (jt m2 (nm T p)).length ≤ 7 ∧ (¬ nb (T 19 p) → (jt m2 (nm T p)).length = 0) := by
    unfold nm nb
    split
    · rename_i z
      exact ⟨nt_len4 ⟨(w2 (by omega)).2.1, (w2 (by omega)).2.2⟩ _, fun y => absurd z y⟩
    · exact ⟨Nat.zero_le _, fun _ => rfl⟩
  have hz : (jt m3 (sc T p)).length ≤ 7 ∧ (T 19 p ≠ 1 → (jt m3 (sc T p)).length = 0) := by
    unfold sc
    split
    · rename_i z
      exact ⟨nt_len4 ⟨(w4 z).2.1, (w4 z).2.2⟩ _, fun y => absurd z y⟩
    · exact ⟨Nat.zero_le _, fun _ => rfl⟩
  have hl : ((jt m4 (lt T p (T 24 p).toNat)).length : Int) ≤ 9 * T 24 p := by
    by_cases e : T 19 p = 2
    · have := w5 e
      have := lt_len4 (T := T) (p := p) (T 24 p).toNat m4 (fun i hi => hv e i (by omega))
      omega
    · have e0 := w6 e
      rw [e0]
      exact Int.le_refl 0
  generalize (jt n [kw T p]).length = lk at *
  generalize (jt m1 (om T p)).length = lo at *
  generalize (jt m2 (nm T p)).length = ln at *
  generalize (jt m3 (sc T p)).length = ls at *
  generalize (jt m4 (lt T p (T 24 p).toNat)).length = ll at *
  rw [q4, q3, q2, q1]
  clear q4 q3 q2 q1 q
  unfold nb at hq
  unfold tk
  by_cases a1 : T 19 p = 0 ∨ T 19 p = 7 ∨ T 19 p = 11
  · have := w6 (by omega)
    have := ho0 (w11 (by omega))
    have := hq.2 (by omega)
    have := hz.2 (by omega)
    rw [if_pos a1]
    omega
  · rw [if_neg a1]
    by_cases a2 : T 19 p = 1 ∨ T 19 p = 3 ∨ T 19 p = 4 ∨ T 19 p = 5
    · have := w6 (by omega)
      rw [if_pos a2]
      by_cases a3 : T 19 p = 1
      · have := ho0 (w11 (by omega))
        omega
      · have := hz.2 a3
        omega
    · rw [if_neg a2]
      have := hz.2 (by omega)
      by_cases a3 : T 19 p = 2
      · have := w5 a3
        have := ho0 (w11 (by omega))
        have := hq.2 (by omega)
        rw [if_pos a3]
        omega
      · rw [if_neg a3]
        have := w6 a3
        by_cases a4 : T 19 p = 6 ∨ T 19 p = 10
        · have := hq.2 (by omega)
          omega
        · have := ho0 (w11 (by omega))
          omega
end
section
theorem laC_at {c : St} {n k : Nat} {L : List Int} (h : n ≤ k ∧ k < n + L.length) : laC c n L 16 k = L.getD (k - n) 0 := by
  unfold laC
  rw [if_neg (by omega), if_pos ⟨rfl, h⟩]
theorem laM_at {c : St} {n k : Nat} {L : List Int} (h : n ≤ k ∧ k < n + L.length) : laM c n L 102 k = L.getD (k - n) 0 := by
  unfold laM
  rw [if_neg (by omega), if_pos ⟨rfl, h⟩]
/-- the TOKENS of a stream's first parts -/
def tps (T : St) (s : Nat) : Nat → List (List Int)
  | 0 => []
  | i + 1 => tps T s i ++ tp T (24 * s + i)
theorem sm_le {f : Nat → Int} : ∀ (k i : Nat), (∀ j, j < i + k → 0 ≤ f j) → sm f i ≤ sm f (i + k) := by
  intro k
  induction k with
  | zero => intro i _; exact Int.le_refl _
  | succ k ih =>
    intro i h
    have a := ih i (fun j hj => h j (by omega))
    have b := h (i + k) (by omega)
    have e : sm f (i + (k + 1)) = sm f (i + k) + f (i + k) := rfl
    rw [e]
    omega
theorem tk_pos {T : St} {p : Nat} (w : WFp T p) : 1 ≤ tk T p ∧ 24 * T 24 p ≤ 12 * tk T p := by
  have w5 := w.2.2.2.2.1
  have w6 := w.2.2.2.2.2.1
  unfold tk
  by_cases e : T 19 p = 2
  · have := w5 e
    rw [if_neg (by omega), if_neg (by omega), if_pos e]
    omega
  · have := w6 e
    split
    · omega
    · split
      · omega
      · omega
theorem tp_wide {T : St} {p : Nat} (w : WFp T p) (n : Nat) : (jt n (tp T p)).length ≤ 250 := by
  have w1 := w.1
  have w5 := w.2.2.2.2.1
  have w6 := w.2.2.2.2.2.1
  have w24 : 0 ≤ T 24 p ∧ T 24 p ≤ 8 := by
    by_cases e : T 19 p = 2
    · have := w5 e; omega
    · have := w6 e; omega
  rw [tp_eq w]
  have q : ∀ A B : List (List Int), ∃ m, (jt n (A ++ B)).length = (jt n A).length + (jt m B).length := fun A B => ⟨_, by rw [jt_app, List.length_append]⟩
  have hk := (kw_len (T := T) (p := p) (by omega) n).1
  obtain ⟨m4, q4⟩ := q ([kw T p] ++ om T p ++ nm T p ++ sc T p) (lt T p (T 24 p).toNat)
  obtain ⟨m3, q3⟩ := q ([kw T p] ++ om T p ++ nm T p) (sc T p)
  obtain ⟨m2, q2⟩ := q ([kw T p] ++ om T p) (nm T p)
  obtain ⟨m1, q1⟩ := q ([kw T p]) (om T p)
  have ho := om_len (T := T) (p := p) m1
  have hq := nm_len (T := T) (p := p) m2
  have hz := sc_len (T := T) (p := p) m3
  have hl := lt_len (T := T) (p := p) (T 24 p).toNat m4
  rw [q4, q3, q2, q1]
  omega
/-- a stream's bytes fit -/
theorem fits {T : St} {s : Nat} (hw : ∀ i : Nat, (i : Int) < T 18 s → WFp T (24 * s + i)) (P : PW T s) : (∀ i : Nat, (i : Int) < T 18 s → (jt 0 (tps T s i)).length + 24 * (T 24 (24 * s + i)).toNat + 100 < 1024) ∧ (jt 0 (tps T s (T 18 s).toNat)).length ≤ 1000 := by
  rcases P with ⟨P1, P2⟩ | ⟨P1, P2⟩
  · have hb : ∀ i : Nat, (i : Int) ≤ T 18 s → ((jt 0 (tps T s i)).length : Int) ≤ 7 * sm (fun k => tk T (24 * s + k)) i := by
      intro i
      induction i with
      | zero => intro _; exact Int.le_refl 0
      | succ i ih =>
        intro hi
        have a := ih (by omega)
        have b := tp_len (hw i (by omega)) (P2 i (by omega)) (0 + (jt 0 (tps T s i)).length)
        have e : sm (fun k => tk T (24 * s + k)) (i + 1) = sm (fun k => tk T (24 * s + k)) i + tk T (24 * s + i) := rfl
        show ((jt 0 (tps T s i ++ tp T (24 * s + i))).length : Int) ≤ _
        rw [jt_app, List.length_append, e]
        omega
    have ht : ∀ j : Nat, j < (T 18 s).toNat → 0 ≤ (fun k => tk T (24 * s + k)) j := fun j hj => by
      have := (tk_pos (hw j (by omega))).1
      show 0 ≤ tk T (24 * s + j)
      omega
    refine ⟨fun i hi => ?_, ?_⟩
    · have a := hb i (by omega)
      have b := tk_pos (hw i hi)
      have m := sm_le (f := fun k => tk T (24 * s + k)) ((T 18 s).toNat - (i + 1)) (i + 1) (fun j hj => ht j (by omega))
      rw [show i + 1 + ((T 18 s).toNat - (i + 1)) = (T 18 s).toNat by omega] at m
      have e : sm (fun k => tk T (24 * s + k)) (i + 1) = sm (fun k => tk T (24 * s + k)) i + tk T (24 * s + i) := rfl
      have w5 := (hw i hi).2.2.2.2.1
      have w6 := (hw i hi).2.2.2.2.2.1
      have w24 : 0 ≤ T 24 (24 * s + i) ∧ T 24 (24 * s + i) ≤ 8 := by
        by_cases e : T 19 (24 * s + i) = 2
        · have := w5 e; omega
        · have := w6 e; omega
      rw [e] at m
      omega
    · by_cases z : 0 ≤ T 18 s
      · have a := hb (T 18 s).toNat (by omega)
        omega
      · rw [show (T 18 s).toNat = 0 by omega]
        exact Nat.zero_le _
  · have w := hw 0 (by omega)
    have w5 := w.2.2.2.2.1 P2
    refine ⟨fun i hi => ?_, ?_⟩
    · have : i = 0 := by omega
      subst this
      show 0 + 24 * (T 24 (24 * s + 0)).toNat + 100 < 1024
      omega
    · rw [show (T 18 s).toNat = 1 by omega]
      show (jt 0 ([] ++ tp T (24 * s + 0))).length ≤ 1000
      have := tp_wide w 0
      rw [List.nil_append]
      omega
/-- the class prints a stream -/
theorem e_wst {N : Nat} (hN : 5000 ≤ N) {T c : St} {s : Nat} (hs : s < 8) (C : ct c T) (h18 : 0 ≤ T 18 s ∧ T 18 s ≤ 24) (hw : ∀ i : Nat, (i : Int) < T 18 s → WFp T (24 * s + i)) (P : PW T s) : d_x1_writeStream N c (s : Int) = some (laC (up c 15 1 0) 0 (jt 0 (tps T s (T 18 s).toNat)), 0) := by
  have ft := (fits hw P).1
  have C0 : PC T (up c 15 1 0) 0 := ⟨C.up (by omega), up_same⟩
  have loop : ∀ (k m i : Nat) (x3 x4 : Int), x3 = (s : Int) * 24 → x4 = ((24 * s + i : Nat) : Int) → i + k = (T 18 s).toNat → k < m → d_x1_writeStream_13L N m (laC (up c 15 1 0) 0 (jt 0 (tps T s i))) (s : Int) x3 x4 = some (laC (up c 15 1 0) 0 (jt 0 (tps T s (T 18 s).toNat)), 0) := by
    intro k
    induction k with
    | zero =>
      intro m i x3 x4 h3 h4 hi hm
      obtain ⟨m, rfl⟩ : ∃ m', m = m' + 1 := ⟨m - 1, by omega⟩
      have : i = (T 18 s).toNat := by omega
      subst this
      have h2 := C0.la (L := jt 0 (tps T s (T 18 s).toNat))
      show d_x1_writeStream_13 N (d_x1_writeStream_13L N m) _ (s : Int) x3 x4 = _
      unfold d_x1_writeStream_13
      rw [w32i (x := (s : Int)) (by omega) (by omega), if_pos (by omega), Int.toNat_natCast, h2.1 18 s (by decide) (by decide), w32i (x := x4) (by omega) (by omega), w32i (x := x3 + T 18 s) (by omega) (by omega), if_neg (by omega)]
    | succ k ih =>
      intro m i x3 x4 h3 h4 hi hm
      obtain ⟨m, rfl⟩ : ∃ m', m = m' + 1 := ⟨m - 1, by omega⟩
      have h2 := C0.la (L := jt 0 (tps T s i))
      have f := ft i (by omega)
      have I := ih m (i + 1) x3 (x4 + 1) h3 (by omega) (by omega) (by omega)
      show d_x1_writeStream_13 N (d_x1_writeStream_13L N m) _ (s : Int) x3 x4 = _
      unfold d_x1_writeStream_13
      rw [w32i (x := (s : Int)) (by omega) (by omega), if_pos (by omega), Int.toNat_natCast, h2.1 18 s (by decide) (by decide), w32i (x := x4) (by omega) (by omega), w32i (x := x3 + T 18 s) (by omega) (by omega), if_pos (by omega)]
      have e := e_wpart hN (p := 24 * s + i) (by omega) (hw i (by omega)) h2 (by omega)
      rw [← h4] at e
      rw [e, bV_some, bd_eq, laC_app, ← jt_app]
      exact I
  unfold d_x1_writeStream
  have l := loop (T 18 s).toNat N 0 ((s : Int) * 24) ((s : Int) * 24) rfl (by omega) (by omega) (by omega)
  have e0 : jt 0 (tps T s 0) = [] := rfl
  rw [e0, laC_nil C0.2] at l
  rw [bd_eq, bd_eq]
  exact l
/-- the model prints a stream -/
theorem m_wst {N : Nat} (hN : 5000 ≤ N) {T r : St} {s : Nat} (hs : s < 8) (R : rt r T) (h18 : 0 ≤ T 18 s ∧ T 18 s ≤ 24) (h78 : T 78 s = T 18 s) (hw : ∀ i : Nat, (i : Int) < T 18 s → WFp T (24 * s + i)) (P : PW T s) : d_x8_prints N r (s : Int) = some (laM (up r 77 35 0) 0 (jt 0 (tps T s (T 18 s).toNat)), 0) := by
  have ft := (fits hw P).1
  have C0 : PM T (up r 77 35 0) 0 := ⟨R.up (by omega), up_same⟩
  have loop : ∀ (k m i : Nat) (x4 : Int), x4 = (i : Int) → i + k = (T 18 s).toNat → k < m → d_x8_prints_7L N m (laM (up r 77 35 0) 0 (jt 0 (tps T s i))) (s : Int) x4 = some (laM (up r 77 35 0) 0 (jt 0 (tps T s (T 18 s).toNat)), 0) := by
    intro k
    induction k with
    | zero =>
      intro m i x4 h4 hi hm
      obtain ⟨m, rfl⟩ : ∃ m', m = m' + 1 := ⟨m - 1, by omega⟩
      have : i = (T 18 s).toNat := by omega
      subst this
      have h2 := C0.la (L := jt 0 (tps T s (T 18 s).toNat))
      show d_x8_prints_7 N (d_x8_prints_7L N m) _ (s : Int) x4 = _
      unfold d_x8_prints_7
      rw [w32i (x := (s : Int)) (by omega) (by omega), if_pos (by omega), Int.toNat_natCast, h2.1 78 s (by decide) (by decide), h78, w32i (x := x4) (by omega) (by omega), w32i (x := T 18 s) (by omega) (by omega), if_neg (by omega)]
    | succ k ih =>
      intro m i x4 h4 hi hm
      obtain ⟨m, rfl⟩ : ∃ m', m = m' + 1 := ⟨m - 1, by omega⟩
      have h2 := C0.la (L := jt 0 (tps T s i))
      have f := ft i (by omega)
      have I := ih m (i + 1) (x4 + 1) (by omega) (by omega) (by omega)
      show d_x8_prints_7 N (d_x8_prints_7L N m) _ (s : Int) x4 = _
      rw [h4] at I ⊢
      rw [m_part hN hs (by omega) (hw i (by omega)) (by omega) h2 (by omega), laM_app, ← jt_app]
      exact I
  unfold d_x8_prints
  have l := loop (T 18 s).toNat N 0 0 rfl (by omega) (by omega)
  have e0 : jt 0 (tps T s 0) = [] := rfl
  rw [e0, laM_nil C0.2] at l
  rw [bd_eq]
  exact l
theorem QG.pr {c r : St} {L : List Int} (H : RG c r) (v : Int) : QG c r (laC (up c 15 1 0) 0 L) (laM (up r 77 35 0) 0 L) v := by
  have e : ∀ a k, ¬ (a = 15 ∨ a = 16) → laC (up c 15 1 0) 0 L a k = c a k := fun a k h => by rw [laC_o (by omega) (by omega), up_ne (by omega)]
  have f : ∀ a k, ¬ (a = 77 ∨ a = 102) → laM (up r 77 35 0) 0 L a k = r a k := fun a k h => by rw [laM_o (by omega) (by omega), up_ne (by omega)]
  have f7 : ∀ k, k ≠ 35 → laM (up r 77 35 0) 0 L 77 k = r 77 k := fun k h => by rw [laM_o (by omega) (by omega), up_nj (by omega)]
  exact ⟨⟨H.1.cong (e _ _ (by omega)) (fun k => e _ _ (by omega)) (f7 _ (by omega)) (fun k => f _ _ (by omega)), H.2.1.cong (fun a k _ _ => e a k (by omega)) (fun a k _ _ => f a k (by omega)), ⟨H.2.2.1.1.cong (fun a k _ _ => e a k (by omega)), H.2.2.1.2.cong (fun a k _ _ => e a k (by omega))⟩, H.2.2.2.1.cong (fun a k _ _ => e a k (by omega)) (e _ _ (by omega)) (e _ _ (by omega)) (fun a k _ _ => f a k (by omega)) (f7 _ (by omega)) (f7 _ (by omega)), H.2.2.2.2.1.cong (fun a k _ _ => e a k (by omega)) (fun a k _ _ => f a k (by omega)), H.2.2.2.2.2.1.cong (e _ _ (by omega)) (f7 _ (by omega)), H.2.2.2.2.2.2.cong (e _ _ (by omega)) (f7 _ (by omega))⟩, fun a k _ => e a k (by omega), fun a k _ => f a k (by omega)⟩
theorem r_print {N : Nat} (hN : 5000 ≤ N) {c r : St} {a0 a1 : Int} (h0 : r32 a0) (h1 : r32 a1) (H : RG c r) : Two (d_x7_print N c a0 a1) (d_x8_print N r a0 a1) (QG c r) := by
  have hp := H.p18
  unfold d_x7_print d_x8_print
  by_cases hs : 0 ≤ a0 ∧ a0 < 8
  · refine Two.cL (S7t h0 hs) (Two.cR (S8t h0 hs) (Two.eL (by decide) (Two.eR (by decide) ?_)))
    obtain ⟨s, rfl⟩ : ∃ s : Nat, a0 = s := ⟨a0.toNat, by omega⟩
    have hps := hp s (by omega)
    refine Two.cL (Em (by omega) hps.1) ?_
    rw [w32i (x := (s : Int)) (by omega) (by omega), if_pos (show 0 ≤ (s : Int) ∧ (s : Int) < ((8 : Nat) : Int) by omega), Int.toNat_natCast, hps.2, w32i (x := c 18 s) (by omega) (by omega)]
    by_cases he : c 18 s = 0
    · rw [if_pos he, if_pos he, if_neg (by decide)]
      exact Two.ret rfl (QG.refl H _)
    · rw [if_neg he, if_neg he, if_pos (by decide)]
      have W := H.2.1.1.1
      have t18 : tx c r 18 s = c 18 s := (tx_ct c r 18 s (by omega) (by omega)).symm
      have w8 := W.1 s (by omega)
      have hw : ∀ i : Nat, (i : Int) < tx c r 18 s → WFp (tx c r) (24 * s + i) := fun i hi => W.2 _ ⟨by omega, by rw [show (24 * s + i) / 24 = s by omega, show (24 * s + i) % 24 = i by omega]; exact hi⟩
      have P := H.2.1.1.2 s (by omega)
      have ft := (fits hw P).2
      refine Two.vL (e_wst hN (by omega) (tx_ct c r) (by omega) hw P) (Two.vR (m_wst hN (by omega) (tx_rt c r) (by omega) (by omega) hw P) ?_)
      generalize jt 0 (tps (tx c r) s (tx c r 18 s).toNat) = L at ft ⊢
      have q := fun v => QG.pr (L := L) H v
      have n1 : laC (up c 15 1 0) 0 L 15 1 = ((L.length : Nat) : Int) := by rw [laC_n, Nat.zero_add]
      have n2 : laM (up r 77 35 0) 0 L 77 35 = ((L.length : Nat) : Int) := by rw [laM_n, Nat.zero_add]
      rw [n1, n2, w32r h1]
      by_cases ha : a1 = -1
      · rw [if_pos ha, if_pos ha]
        exact Two.ret rfl (q _)
      · rw [if_neg ha, if_neg ha, w32i (x := (L.length : Int) - 1) (by omega) (by omega), w32i (x := (L.length : Int)) (by omega) (by omega), e_in32 N _ h1 (by unfold r32; omega) (by unfold r32; omega), bI_some]
        by_cases hb : 0 ≤ a1 ∧ a1 ≤ (L.length : Int) - 1
        · rw [if_pos hb, if_neg (by omega), if_pos (by omega), if_pos (by omega), if_neg (by decide), if_pos (by omega)]
          refine Two.ret ?_ (q _)
          rw [laC_at (by omega), laM_at (by omega)]
        · rw [if_neg hb, if_pos w32_0]
          by_cases hc : a1 < 0
          · rw [if_pos hc]
            exact Two.ret rfl (q _)
          · rw [if_neg hc, if_neg (by omega)]
            exact Two.ret rfl (q _)
  · refine Two.cL (S7f h0 hs) (Two.cR (S8f h0 hs) (Two.iL (by decide) (Two.iR (by decide) ?_)))
    exact Two.ret rfl (QG.refl H _)
end
section
theorem ch_ok : ∀ x : Fin 256, c16 ((x.val : Nat) : Int) = ((x.val : Nat) : Int) ∧ w8 ((x.val : Nat) : Int) = (if x.val < 128 then ((x.val : Nat) : Int) else ((x.val : Nat) : Int) - 256) := by decide +kernel
theorem chx {x : Int} (h : 0 ≤ x ∧ x ≤ 255) : c16 x = x ∧ w8 x = (if x < 128 then x else x - 256) := by
  have k := ch_ok ⟨x.toNat, by omega⟩
  have e : ((x.toNat : Nat) : Int) = x := by omega
  have k1 : c16 ((x.toNat : Nat) : Int) = ((x.toNat : Nat) : Int) := k.1
  have k2 : w8 ((x.toNat : Nat) : Int) = (if x.toNat < 128 then ((x.toNat : Nat) : Int) else ((x.toNat : Nat) : Int) - 256) := k.2
  rw [e] at k1 k2
  refine ⟨k1, ?_⟩
  rw [k2]
  by_cases z : x < 128
  · rw [if_pos z, if_pos (by omega)]
  · rw [if_neg z, if_neg (by omega)]
theorem gd_mem {L : List Int} {x : Int} : x ∈ L ↔ ∃ l, l < L.length ∧ L.getD l 0 = x := by
  constructor
  · intro h
    obtain ⟨l, hl, e⟩ := List.getElem_of_mem h
    exact ⟨l, hl, by rw [List.getD_eq_getElem?_getD, List.getElem?_eq_getElem hl]; exact e⟩
  · rintro ⟨l, hl, e⟩
    rw [← e, List.getD_eq_getElem?_getD, List.getElem?_eq_getElem hl]
    exact List.getElem_mem hl
/-- where a sign stands in a text of the class -/
theorem e_idx {N i : Nat} (hN : 100 ≤ N) (hi : i < 25) {s : St} {x : Int} (hx : 0 ≤ x ∧ x ≤ 255) : ∃ v, d_j0_indexOf_0f7a4 N s (2 * i + 1) (c16 x) = some (s, v) ∧ (v < 0 ↔ ¬ x ∈ tl i) ∧ -1 ≤ v ∧ v ≤ 9 := by
  obtain ⟨ec, ew⟩ := chx hx
  have ok : (tl i).length ≤ 9 ∧ (tl i).all (fun x => decide (0 ≤ x ∧ x < 128)) = true := tl_ok ⟨i, hi⟩
  have hl := ok.1
  have h1 : ¬ (2 * i + 1 = 1000) := by omega
  have h2 : (2 * i + 1) % 2 = 1 ∧ (2 * i + 1) / 2 < 25 := by omega
  have h3 : (2 * i + 1) / 2 = i := by omega
  have h2' : (2 * i + 1) % 2 = 1 ∧ i < 25 := by omega
  have h4 : bOk (2 * i + 2) := by unfold bOk; omega
  have h5 : bLen (2 * i + 2) = (tl i).length := by
    unfold bLen tl
    rw [show (2 * i + 2) / 2 - 1 = i by omega, List.length_map]
  have hb : ∀ j, bAt (2 * i + 2) j = (tl i).getD j 0 := fun j => by
    unfold bAt tl
    rw [show (2 * i + 2) / 2 - 1 = i by omega]
    exact gd_map _ j
  have hr : ∀ j, j < (tl i).length → 0 ≤ (tl i).getD j 0 ∧ (tl i).getD j 0 < 128 := fun j hj => by
    have hm : (tl i).getD j 0 ∈ tl i := gd_mem.mpr ⟨j, hj, rfl⟩
    exact of_decide_eq_true (List.all_eq_true.mp ok.2 _ hm)
  have t3 := (tx_all (N := N) hi).2.2.1 s
  have loop : ∀ (k m j : Nat), j + k = (tl i).length → k < m → (∀ l, l < j → (tl i).getD l 0 ≠ x) → ∃ v, d_j1_indexOfChar_4cfef_7L N m s (2 * i + 2) ((tl i).length : Int) (w8 x) (j : Int) = some (s, v) ∧ (v < 0 ↔ ¬ x ∈ tl i) ∧ -1 ≤ v ∧ v ≤ 9 := by
    intro k
    induction k with
    | zero =>
      intro m j hj hm hp
      obtain ⟨m, rfl⟩ : ∃ m', m = m' + 1 := ⟨m - 1, by omega⟩
      show ∃ v, d_j1_indexOfChar_4cfef_7 N (d_j1_indexOfChar_4cfef_7L N m) s (2 * i + 2) ((tl i).length : Int) (w8 x) (j : Int) = some (s, v) ∧ _
      unfold d_j1_indexOfChar_4cfef_7
      have e : (j : Int) = ((tl i).length : Int) := by omega
      rw [e, if_neg (Int.lt_irrefl _)]
      refine ⟨-1, rfl, ⟨fun _ z => ?_, fun _ => by decide⟩, by decide, by decide⟩
      obtain ⟨l, a, b⟩ := gd_mem.mp z
      exact hp l (by omega) b
    | succ k ih =>
      intro m j hj hm hp
      obtain ⟨m, rfl⟩ : ∃ m', m = m' + 1 := ⟨m - 1, by omega⟩
      show ∃ v, d_j1_indexOfChar_4cfef_7 N (d_j1_indexOfChar_4cfef_7L N m) s (2 * i + 2) ((tl i).length : Int) (w8 x) (j : Int) = some (s, v) ∧ _
      unfold d_j1_indexOfChar_4cfef_7
      have g := hr j (by omega)
      rw [w32i (x := (j : Int)) (by omega) (by omega), w32i (x := ((tl i).length : Int)) (by omega) (by omega), if_pos (by omega), if_neg (by omega), h5, if_pos ⟨h4, by omega, by omega⟩, Int.toNat_natCast, hb, w32i (x := (tl i).getD j 0) (by omega) (by omega), ew]
      by_cases z : x < 128
      · rw [if_pos z, w32i (x := x) (by omega) (by omega)]
        by_cases y : (tl i).getD j 0 = x
        · rw [if_pos y]
          refine ⟨_, rfl, ⟨fun w => ?_, fun w => absurd (gd_mem.mpr ⟨j, by omega, y⟩) w⟩, by omega, by omega⟩
          omega
        · rw [if_neg y, bd_eq]
          have I := ih m (j + 1) (by omega) (by omega) (fun l hl => by
            by_cases q : l = j
            · rw [q]; exact y
            · exact hp l (by omega))
          rw [ew, if_pos z] at I
          exact I
      · rw [if_neg z, w32i (x := x - 256) (by omega) (by omega), if_neg (by omega), bd_eq]
        have I := ih m (j + 1) (by omega) (by omega) (fun l hl => by
            by_cases q : l = j
            · rw [q]; omega
            · exact hp l (by omega))
        rw [ew, if_neg z] at I
        exact I
  obtain ⟨v, e1, e2⟩ := loop (tl i).length N 0 (by omega) (by omega) (fun l hl => by omega)
  refine ⟨v, ?_, e2⟩
  have ce : d_j1_canEncode_9a6ad N s x = some (s, 1) := by
    unfold d_j1_canEncode_9a6ad
    rw [w32i (x := x) (by omega) (by omega), if_neg (by omega), if_neg (by omega)]
  have ci : d_j1_indexOfChar_4cfef N s (2 * i + 2) x 0 ((tl i).length : Int) = some (s, v) := by
    unfold d_j1_indexOfChar_4cfef
    rw [bd_eq]
    exact e1
  have z0 : (if w32 (0 : Int) < 0 then (0 : Int) else 0) = 0 := if_neg (by decide)
  have cx : d_j1_indexOf_4cfef N s (2 * i + 2) x 0 ((tl i).length : Int) = some (s, v) := by
    unfold d_j1_indexOf_4cfef
    rw [ce, bI_some, w32_1, if_neg (by decide), z0, bd_eq, if_neg (show ¬ 2 * i + 2 = 1000 by omega), if_pos h4, h5, if_neg (Int.lt_irrefl _), bd_eq, w32_0, w32i (x := ((tl i).length : Int)) (by omega) (by omega)]
    by_cases hz : (tl i).length = 0
    · have hv : v = -1 := by
        have q : ¬ x ∈ tl i := fun q => by
          obtain ⟨l, a, b⟩ := gd_mem.mp q
          omega
        have := e2.1.mpr q
        omega
      rw [if_neg (by omega), hv]
    · rw [if_pos (by omega), if_neg (show ¬ 2 * i + 2 = 1000 by omega), ci, bI_some]
  have la : d_j0_isLatin1_aae02 N s (2 * i + 1) = some (s, 1) := by
    unfold d_j0_isLatin1_aae02
    rw [if_neg h1, h3, if_pos h2']
  unfold d_j0_indexOf_0f7a4 d_j0_indexOf_7cf53
  rw [ec, la, bI_some, t3, bI_some, h3, bI_some, cx, bI_some, w32_1, if_neg (show ¬ (1 : Int) = 0 by decide), if_neg h1, if_pos h2', if_neg h1, if_pos h2', if_neg h1, if_pos h2', if_neg h1, if_pos h2', bI_some]
/-- the sort of a byte -/
def so (x : Int) : Int := if x = 32 ∨ x = 10 then 5 else if 97 ≤ x ∧ x ≤ 122 then 1 else if 48 ≤ x ∧ x ≤ 57 then 2 else if x = 43 ∨ x = 45 ∨ x = 42 ∨ x = 47 ∨ x = 37 ∨ x = 60 ∨ x = 62 ∨ x = 61 ∨ x = 44 then 3 else 4
theorem so_r (x : Int) : 1 ≤ so x ∧ so x ≤ 5 := by
  unfold so
  split
  · decide
  · split
    · decide
    · split
      · decide
      · split <;> decide
theorem tl0 : ∀ x : Fin 256, (((x.val : Nat) : Int) ∈ tl 0 ↔ (x.val = 43 ∨ x.val = 45 ∨ x.val = 42 ∨ x.val = 47 ∨ x.val = 37 ∨ x.val = 60 ∨ x.val = 62 ∨ x.val = 61 ∨ x.val = 44)) := by decide +kernel
theorem tl23 : ∀ x : Fin 256, (((x.val : Nat) : Int) ∈ tl 23 ↔ (x.val = 43 ∨ x.val = 45 ∨ x.val = 42 ∨ x.val = 47 ∨ x.val = 37)) := by decide +kernel
theorem tl24 : ∀ x : Fin 256, (((x.val : Nat) : Int) ∈ tl 24 ↔ (x.val = 60 ∨ x.val = 62 ∨ x.val = 61 ∨ x.val = 37)) := by decide +kernel
theorem e_sort {N : Nat} (hN : 100 ≤ N) {s : St} {x : Int} (hx : 0 ≤ x ∧ x ≤ 255) : d_x2_sortOf N s x = some (s, so x) := by
  unfold d_x2_sortOf d_x2_sortOf_28 d_x2_sortOf_42 so
  rw [w32i (x := x) (by omega) (by omega)]
  obtain ⟨v, e1, e2, e3, e4⟩ := e_idx (N := N) (i := 0) hN (by decide) (s := s) hx
  have e1' : d_j0_indexOf_0f7a4 N s (2 * 0 + 1) (c16 x) = some (s, v) := e1
  have m := tl0 ⟨x.toNat, by omega⟩
  have e0 : ((x.toNat : Nat) : Int) = x := by omega
  have m' : (x ∈ tl 0 ↔ (x.toNat = 43 ∨ x.toNat = 45 ∨ x.toNat = 42 ∨ x.toNat = 47 ∨ x.toNat = 37 ∨ x.toNat = 60 ∨ x.toNat = 62 ∨ x.toNat = 61 ∨ x.toNat = 44)) := by rw [← e0]; exact m
  have sg : (if (2 * 0 + 1) % 2 = 1 ∧ (2 * 0 + 1) / 2 < 25 then bI (d_j0_indexOf_0f7a4 N s (2 * 0 + 1) (c16 x)) fun s1 v2 => (if (w32 v2) < 0 then some (s1, 4) else some (s1, 3)) else none) = some (s, if x = 43 ∨ x = 45 ∨ x = 42 ∨ x = 47 ∨ x = 37 ∨ x = 60 ∨ x = 62 ∨ x = 61 ∨ x = 44 then 3 else 4) := by
    rw [if_pos (by decide), e1', bI_some, w32i (x := v) (by omega) (by omega)]
    by_cases z : v < 0
    · have := e2.mp z
      rw [if_pos z, if_neg (fun q => this (m'.mpr (by omega)))]
    · have : x ∈ tl 0 := Classical.byContradiction (fun q => z (e2.mpr q))
      have := m'.mp this
      rw [if_neg z, if_pos (by omega)]
  by_cases a1 : x = 32
  · rw [if_pos a1, if_pos (Or.inl a1)]
  · rw [if_neg a1]
    by_cases a2 : x = 10
    · rw [if_pos a2, if_pos (Or.inr a2)]
    · rw [if_neg a2, if_neg (show ¬ (x = 32 ∨ x = 10) by omega), sg]
      by_cases a3 : x < 97
      · rw [if_pos a3, if_neg (show ¬ (97 ≤ x ∧ x ≤ 122) by omega)]
        by_cases a4 : x < 48
        · rw [if_pos a4, if_neg (show ¬ (48 ≤ x ∧ x ≤ 57) by omega)]
        · rw [if_neg a4]
          by_cases a5 : 57 < x
          · rw [if_pos a5, if_neg (show ¬ (48 ≤ x ∧ x ≤ 57) by omega)]
          · rw [if_neg a5, if_pos (show 48 ≤ x ∧ x ≤ 57 by omega)]
      · rw [if_neg a3]
        by_cases a6 : 122 < x
        · rw [if_pos a6, if_neg (show ¬ (97 ≤ x ∧ x ≤ 122) by omega), if_neg (show ¬ x < 48 by omega), if_pos (show 57 < x by omega), if_neg (show ¬ (48 ≤ x ∧ x ≤ 57) by omega)]
        · rw [if_neg a6, if_pos (show 97 ≤ x ∧ x ≤ 122 by omega)]
end
section
/-- the first place from a on whose byte isn't of sort st -/
def rnf (b : Nat → Int) (st : Int) : Nat → Nat → Nat
  | 0, a => a
  | m + 1, a => if so (b a) = st then rnf b st m (a + 1) else a
def rn (b : Nat → Int) (z : Nat) (st : Int) (a : Nat) : Nat := rnf b st (z - a) a
theorem rnf_le {b : Nat → Int} {st : Int} : ∀ m a, a ≤ rnf b st m a ∧ rnf b st m a ≤ a + m := by
  intro m
  induction m with
  | zero => intro a; exact ⟨Nat.le_refl _, Nat.le_refl _⟩
  | succ m ih =>
    intro a
    show a ≤ (if so (b a) = st then rnf b st m (a + 1) else a) ∧ (if so (b a) = st then rnf b st m (a + 1) else a) ≤ a + (m + 1)
    have := ih (a + 1)
    split <;> omega
theorem rn_le {b : Nat → Int} {z a : Nat} {st : Int} (h : a ≤ z) : a ≤ rn b z st a ∧ rn b z st a ≤ z := by
  have := rnf_le (b := b) (st := st) (z - a) a
  unfold rn
  omega
theorem rn_step {b : Nat → Int} {z a : Nat} {st : Int} (h : a < z) (e : so (b a) = st) : rn b z st a = rn b z st (a + 1) := by
  unfold rn
  obtain ⟨m, hm⟩ : ∃ m, z - a = m + 1 := ⟨z - a - 1, by omega⟩
  rw [hm, show z - (a + 1) = m by omega]
  show (if so (b a) = st then rnf b st m (a + 1) else a) = _
  rw [if_pos e]
theorem rn_stop {b : Nat → Int} {z a : Nat} {st : Int} (e : so (b a) ≠ st) : rn b z st a = a := by
  unfold rn
  cases z - a with
  | zero => rfl
  | succ m =>
    show (if so (b a) = st then rnf b st m (a + 1) else a) = _
    rw [if_neg e]
theorem rn_end {b : Nat → Int} {z a : Nat} {st : Int} (h : z ≤ a) : rn b z st a = a := by
  unfold rn
  rw [show z - a = 0 by omega]
  rfl
/-- the end of the TOKEN at a -/
def te (b : Nat → Int) (z a : Nat) : Nat := if so (b a) = 1 ∨ so (b a) = 2 then rn b z (so (b a)) (a + 1) else a + 1
theorem te_le {b : Nat → Int} {z a : Nat} (h : a < z) : a < te b z a ∧ te b z a ≤ z := by
  unfold te
  split
  · have := rn_le (b := b) (z := z) (a := a + 1) (st := so (b a)) (by omega)
    omega
  · omega
/-- where TOKEN j begins -/
def bgf (b : Nat → Int) (z : Nat) : Nat → Nat
  | 0 => rn b z 5 0
  | j + 1 => if bgf b z j < z then rn b z 5 (te b z (bgf b z j)) else z
theorem bgf_le {b : Nat → Int} {z : Nat} : ∀ j, bgf b z j ≤ z := by
  intro j
  cases j with
  | zero => exact (rn_le (by omega)).2
  | succ j =>
    show (if bgf b z j < z then rn b z 5 (te b z (bgf b z j)) else z) ≤ z
    split
    · rename_i h
      exact (rn_le (te_le h).2).2
    · exact Nat.le_refl _
def mw (b : Nat → Int) (a n k : Nat) : Prop := n ≤ 5 ∧ ∀ l, l < 5 → (if l < n then b (a + l) else 0) = (tl k).getD l 0
def mwD (b : Nat → Int) (a n k : Nat) : Decidable (mw b a n k) := inferInstanceAs (Decidable (n ≤ 5 ∧ ∀ l, l < 5 → (if l < n then b (a + l) else 0) = (tl k).getD l 0))
def fk (b : Nat → Int) (a n : Nat) : Nat → Nat → Int
  | 0, _ => -1
  | m + 1, k => @ite Int (mw b a n k) (mwD b a n k) (k : Int) (fk b a n m (k + 1))
theorem fk_y {b : Nat → Int} {a n m k : Nat} (h : mw b a n k) : fk b a n (m + 1) k = k := by
  unfold fk
  exact if_pos h
theorem fk_n {b : Nat → Int} {a n m k : Nat} (h : ¬ mw b a n k) : fk b a n (m + 1) k = fk b a n m (k + 1) := by
  show fk b a n (m + 1) k = _
  rw [fk]
  exact if_neg h
theorem fk_r {b : Nat → Int} {a n : Nat} : ∀ m k, fk b a n m k = -1 ∨ ((k : Int) ≤ fk b a n m k ∧ fk b a n m k < k + m) := by
  intro m
  induction m with
  | zero => intro k; exact Or.inl rfl
  | succ m ih =>
    intro k
    by_cases h : mw b a n k
    · rw [fk_y h]
      omega
    · rw [fk_n h]
      have := ih (k + 1)
      omega
theorem tlw : ∀ k : Fin 14, k.val ≠ 0 → 3 ≤ (tl k.val).length ∧ (tl k.val).length ≤ 5 ∧ (tl k.val).getD 1 0 ≠ 0 ∧ ∀ l : Fin 5, ((tl k.val).getD l.val 0 ≠ 0 ↔ l.val < (tl k.val).length) := by decide +kernel
/-- a word of one letter is none of the kinds -/
theorem fk_1 {b : Nat → Int} {a : Nat} : ∀ m k, 1 ≤ k → k + m = 14 → fk b a 1 m k = -1 := by
  intro m
  induction m with
  | zero => intro k _ _; rfl
  | succ m ih =>
    intro k hk h
    rw [fk_n (fun q => ?_)]
    · exact ih (k + 1) (by omega) (by omega)
    · have t : (tl k).getD 1 0 ≠ 0 := (tlw ⟨k, by omega⟩ (by show k ≠ 0; omega)).2.2.1
      have := q.2 1 (by decide)
      rw [if_neg (by decide)] at this
      exact t this.symm
/-- the kind of a word; -1 for none -/
def kd (b : Nat → Int) (a n : Nat) : Int := if n = 1 then (if b a < 105 then 0 else -1) else fk b a n 13 1
def dv (b : Nat → Int) (a : Nat) : Nat → Int
  | 0 => 0
  | n + 1 => dv b a n * 10 + b (a + n) - 48
def srt (b : Nat → Int) (a e : Nat) : Int := if so (b a) = 2 ∧ 4 < e - a then 4 else so (b a)
def mng (b : Nat → Int) (a e : Nat) : Int := if srt b a e = 1 then kd b a (e - a) else if srt b a e = 2 then dv b a (e - a) else b a
theorem e_isw {N : Nat} (hN : 100 ≤ N) {b : Nat → Int} {s : St} {a e k : Nat} (hb : ∀ i, s 11 i = b i) (hk : 1 ≤ k ∧ k ≤ 13) (he : a < e ∧ e ≤ 120) (hr : ∀ l, a ≤ l → l < e → 97 ≤ b l ∧ b l ≤ 122) : (mw b a (e - a) k → d_x2_isWord N s (2 * k + 1) (a : Int) (e : Int) = some (s, 1)) ∧ (¬ mw b a (e - a) k → d_x2_isWord N s (2 * k + 1) (a : Int) (e : Int) = some (s, 0)) := by
  obtain ⟨t1, t2, t3, t4⟩ := tx_all (N := N) (i := k) (by omega)
  have tw := tlw ⟨k, by omega⟩ (by show k ≠ 0; omega)
  have w1 : 3 ≤ (tl k).length := tw.1
  have w2 : (tl k).length ≤ 5 := tw.2.1
  have w3 : ∀ l, l < 5 → ((tl k).getD l 0 ≠ 0 ↔ l < (tl k).length) := fun l hl => tw.2.2.2 ⟨l, hl⟩
  have w4 : ∀ l, l < (tl k).length → 0 ≤ (tl k).getD l 0 ∧ (tl k).getD l 0 < 128 := fun l hl => by
    have ok : (tl k).length ≤ 9 ∧ (tl k).all (fun x => decide (0 ≤ x ∧ x < 128)) = true := tl_ok ⟨k, by omega⟩
    exact of_decide_eq_true (List.all_eq_true.mp ok.2 _ (gd_mem.mpr ⟨l, hl, rfl⟩))
  have hlen : mw b a (e - a) k → e - a = (tl k).length := fun q => by
    have q5 := q.1
    by_cases c1 : e - a < (tl k).length
    · have := q.2 (e - a) (by omega)
      rw [if_neg (by omega)] at this
      exact absurd this.symm ((w3 (e - a) (by omega)).mpr c1)
    · by_cases c2 : (tl k).length < e - a
      · have q2 := q.2 (tl k).length (by omega)
        rw [if_pos c2] at q2
        have := hr (a + (tl k).length) (by omega) (by omega)
        have z := (w3 (tl k).length (by omega)).mp (by rw [← q2]; omega)
        omega
      · omega
  unfold d_x2_isWord
  rw [if_neg t1, if_pos t2, t3, bI_some, w32i (x := ((tl k).length : Int)) (by omega) (by omega), w32i (x := (e : Int) - (a : Int)) (by omega) (by omega)]
  by_cases hl : e - a = (tl k).length
  · rw [if_pos (by omega)]
    have loop : ∀ (f m j : Nat), j + f = (tl k).length → f < m → (∀ l, l < j → b (a + l) = (tl k).getD l 0) → ((∀ l, l < (tl k).length → b (a + l) = (tl k).getD l 0) → d_x2_isWord_15L N m s (2 * k + 1) (a : Int) (j : Int) = some (s, 1)) ∧ (¬ (∀ l, l < (tl k).length → b (a + l) = (tl k).getD l 0) → d_x2_isWord_15L N m s (2 * k + 1) (a : Int) (j : Int) = some (s, 0)) := by
      intro f
      induction f with
      | zero =>
        intro m j hj hm hp
        obtain ⟨m, rfl⟩ : ∃ m', m = m' + 1 := ⟨m - 1, by omega⟩
        have e1 : d_x2_isWord_15L N (m + 1) s (2 * k + 1) (a : Int) (j : Int) = some (s, 1) := by
          show d_x2_isWord_15 N (d_x2_isWord_15L N m) s (2 * k + 1) (a : Int) (j : Int) = _
          unfold d_x2_isWord_15
          have ej : (j : Int) = ((tl k).length : Int) := by omega
          rw [if_neg t1, if_pos t2, t3, bI_some, ej, if_neg (Int.lt_irrefl _)]
        exact ⟨fun _ => e1, fun q => absurd (fun l hl => hp l (by omega)) q⟩
      | succ f ih =>
        intro m j hj hm hp
        obtain ⟨m, rfl⟩ : ∃ m', m = m' + 1 := ⟨m - 1, by omega⟩
        have g := w4 j (by omega)
        have g2 := hr (a + j) (by omega) (by omega)
        have u : d_x2_isWord_15L N (m + 1) s (2 * k + 1) (a : Int) (j : Int) = (if b (a + j) = (tl k).getD j 0 then d_x2_isWord_15L N m s (2 * k + 1) (a : Int) ((j : Int) + 1) else some (s, 0)) := by
          show d_x2_isWord_15 N (d_x2_isWord_15L N m) s (2 * k + 1) (a : Int) (j : Int) = _
          unfold d_x2_isWord_15
          rw [if_neg t1, if_pos t2, t3, bI_some, w32i (x := (j : Int)) (by omega) (by omega), w32i (x := ((tl k).length : Int)) (by omega) (by omega), if_pos (by omega), w32i (x := (a : Int) + (j : Int)) (by omega) (by omega), if_pos (by omega), if_neg t1, if_pos t2, t4 s j (by omega), bI_some, show ((a : Int) + (j : Int)).toNat = a + j by omega, hb, w32i (x := b (a + j)) (by omega) (by omega), w32i (x := (tl k).getD j 0) (by omega) (by omega), bd_eq]
        rw [u]
        by_cases y : b (a + j) = (tl k).getD j 0
        · rw [if_pos y]
          exact ih m (j + 1) (by omega) (by omega) (fun l hl => by
            by_cases q : l = j
            · rw [q]; exact y
            · exact hp l (by omega))
        · rw [if_neg y]
          exact ⟨fun q => absurd (q j (by omega)) y, fun _ => rfl⟩
    have l0 := loop (tl k).length N 0 (by omega) (by omega) (fun l hl => by omega)
    refine ⟨fun q => l0.1 (fun l hl => ?_), fun q => l0.2 (fun y => q ⟨by omega, fun l hl => ?_⟩)⟩
    · have := q.2 l (by omega)
      rw [if_pos (by omega)] at this
      exact this
    · by_cases z : l < e - a
      · rw [if_pos z]
        exact y l (by omega)
      · rw [if_neg z]
        exact (Classical.byContradiction (fun w => z (by have := (w3 l hl).mp (fun v => w v.symm); omega)))
  · rw [if_neg (by omega)]
    exact ⟨fun q => absurd (hlen q) hl, fun _ => rfl⟩
end
section
theorem e_kow {N : Nat} (hN : 100 ≤ N) {b : Nat → Int} {s : St} {a e : Nat} (hb : ∀ i, s 11 i = b i) (he : a < e ∧ e ≤ 120) (hr : ∀ l, a ≤ l → l < e → 97 ≤ b l ∧ b l ≤ 122) : d_x2_kindOfWord N s (a : Int) (e : Int) = some (s, kd b a (e - a)) := by
  unfold d_x2_kindOfWord kd
  rw [w32i (x := (e : Int) - (a : Int)) (by omega) (by omega)]
  by_cases h1 : e - a = 1
  · have g := hr a (by omega) (by omega)
    rw [if_pos (by omega), w32i (x := (a : Int)) (by omega) (by omega), if_pos (by omega), Int.toNat_natCast, hb, w32i (x := b a) (by omega) (by omega), if_pos h1]
    by_cases h2 : b a < 105
    · rw [if_pos h2, if_pos h2]
    · rw [if_neg h2, if_neg h2]
  · rw [if_neg (by omega), if_neg h1]
    have loop : ∀ (f m k : Nat), 1 ≤ k → k + f = 14 → f < m → d_x2_kindOfWord_26L N m s (a : Int) (e : Int) (k : Int) = some (s, fk b a (e - a) f k) := by
      intro f
      induction f with
      | zero =>
        intro m k hk hf hm
        obtain ⟨m, rfl⟩ : ∃ m', m = m' + 1 := ⟨m - 1, by omega⟩
        show d_x2_kindOfWord_26 N (d_x2_kindOfWord_26L N m) s (a : Int) (e : Int) (k : Int) = _
        unfold d_x2_kindOfWord_26
        rw [w32i (x := (k : Int)) (by omega) (by omega), if_neg (by omega)]
        rfl
      | succ f ih =>
        intro m k hk hf hm
        obtain ⟨m, rfl⟩ : ∃ m', m = m' + 1 := ⟨m - 1, by omega⟩
        have wd : d_x0_word N s (k : Int) = some (s, (((2 * k + 1) : Nat) : Int)) := by
          have hk' : k = 1 ∨ k = 2 ∨ k = 3 ∨ k = 4 ∨ k = 5 ∨ k = 6 ∨ k = 7 ∨ k = 8 ∨ k = 9 ∨ k = 10 ∨ k = 11 ∨ k = 12 ∨ k = 13 := by omega
          rcases hk' with e | e | e | e | e | e | e | e | e | e | e | e | e <;> subst e <;> rfl
        have iw := e_isw hN hb (k := k) (by omega) he hr
        show d_x2_kindOfWord_26 N (d_x2_kindOfWord_26L N m) s (a : Int) (e : Int) (k : Int) = _
        unfold d_x2_kindOfWord_26
        rw [w32i (x := (k : Int)) (by omega) (by omega), if_pos (by omega), wd, bS_some, Int.toNat_natCast]
        by_cases q : mw b a (e - a) k
        · rw [iw.1 q, bI_some, if_neg (by decide), fk_y q]
        · rw [iw.2 q, bI_some, if_pos (by decide), bd_eq, fk_n q]
          exact ih m (k + 1) (by omega) (by omega) (by omega)
    exact loop 13 N 1 (by omega) (by omega) (by omega)
theorem e_dec {N : Nat} {b : Nat → Int} {s : St} {a e : Nat} (hb : ∀ i, s 11 i = b i) (he : a ≤ e ∧ e ≤ 120) : ∀ (f m j : Nat), a + j + f = e → f < m → d_x2_meaningOf_30L N m s (e : Int) (dv b a j) (((a + j : Nat)) : Int) = some (s, dv b a (e - a)) := by
  intro f
  induction f with
  | zero =>
    intro m j hj hm
    obtain ⟨m, rfl⟩ : ∃ m', m = m' + 1 := ⟨m - 1, by omega⟩
    show d_x2_meaningOf_30 N (d_x2_meaningOf_30L N m) s (e : Int) (dv b a j) _ = _
    unfold d_x2_meaningOf_30
    rw [show a + j = e by omega, if_neg (Int.lt_irrefl _), show e - a = j by omega]
  | succ f ih =>
    intro m j hj hm
    obtain ⟨m, rfl⟩ : ∃ m', m = m' + 1 := ⟨m - 1, by omega⟩
    show d_x2_meaningOf_30 N (d_x2_meaningOf_30L N m) s (e : Int) (dv b a j) _ = _
    unfold d_x2_meaningOf_30
    rw [w32i (x := (((a + j : Nat)) : Int)) (by omega) (by omega), w32i (x := (e : Int)) (by omega) (by omega), if_pos (by omega), if_pos (by omega), bd_eq, bd_eq, Int.toNat_natCast, hb]
    exact ih m (j + 1) (by omega) (by omega)
theorem so_1 {x : Int} : so x = 1 ↔ 97 ≤ x ∧ x ≤ 122 := by
  unfold so
  by_cases h1 : x = 32 ∨ x = 10
  · rw [if_pos h1]
    omega
  · rw [if_neg h1]
    by_cases h2 : 97 ≤ x ∧ x ≤ 122
    · rw [if_pos h2]
      omega
    · rw [if_neg h2]
      split
      · omega
      · split <;> omega
theorem so_2 {x : Int} : so x = 2 ↔ 48 ≤ x ∧ x ≤ 57 := by
  unfold so
  by_cases h1 : x = 32 ∨ x = 10
  · rw [if_pos h1]
    omega
  · rw [if_neg h1]
    by_cases h2 : 97 ≤ x ∧ x ≤ 122
    · rw [if_pos h2]
      omega
    · rw [if_neg h2]
      by_cases h3 : 48 ≤ x ∧ x ≤ 57
      · rw [if_pos h3]
        omega
      · rw [if_neg h3]
        split <;> omega
theorem so_5 {x : Int} : so x = 5 ↔ x = 32 ∨ x = 10 := by
  unfold so
  by_cases h1 : x = 32 ∨ x = 10
  · rw [if_pos h1]
    omega
  · rw [if_neg h1]
    split
    · omega
    · split
      · omega
      · split <;> omega
theorem so_3 {x : Int} : so x = 3 ↔ (x = 43 ∨ x = 45 ∨ x = 42 ∨ x = 47 ∨ x = 37 ∨ x = 60 ∨ x = 62 ∨ x = 61 ∨ x = 44) := by
  unfold so
  by_cases h1 : x = 32 ∨ x = 10
  · rw [if_pos h1]
    omega
  · rw [if_neg h1]
    by_cases h2 : 97 ≤ x ∧ x ≤ 122
    · rw [if_pos h2]
      omega
    · rw [if_neg h2]
      by_cases h3 : 48 ≤ x ∧ x ≤ 57
      · rw [if_pos h3]
        omega
      · rw [if_neg h3]
        by_cases h4 : x = 43 ∨ x = 45 ∨ x = 42 ∨ x = 47 ∨ x = 37 ∨ x = 60 ∨ x = 62 ∨ x = 61 ∨ x = 44
        · rw [if_pos h4]
          exact ⟨fun _ => h4, fun _ => rfl⟩
        · rw [if_neg h4]
          exact ⟨fun q => absurd q (by decide), fun q => absurd q h4⟩
theorem rnf_all {b : Nat → Int} {st : Int} : ∀ m a l, a ≤ l → l < rnf b st m a → so (b l) = st := by
  intro m
  induction m with
  | zero => intro a l h1 h2; exact absurd h2 (by show ¬ l < a; omega)
  | succ m ih =>
    intro a l h1 h2
    by_cases e : so (b a) = st
    · have h2' : l < (if so (b a) = st then rnf b st m (a + 1) else a) := h2
      rw [if_pos e] at h2'
      by_cases q : l = a
      · rw [q]; exact e
      · exact ih (a + 1) l (by omega) h2'
    · have h2' : l < (if so (b a) = st then rnf b st m (a + 1) else a) := h2
      rw [if_neg e] at h2'
      omega
/-- every byte of a word or of digits is of its sort -/
theorem te_all {b : Nat → Int} {z a l : Nat} (h : so (b a) = 1 ∨ so (b a) = 2) (h1 : a ≤ l) (h2 : l < te b z a) : so (b l) = so (b a) := by
  unfold te at h2
  rw [if_pos h] at h2
  by_cases q : l = a
  · rw [q]
  · exact rnf_all _ _ l (by omega) h2
theorem e_mean {N : Nat} (hN : 300 ≤ N) {b : Nat → Int} {s : St} {a z : Nat} (hb : ∀ i, s 11 i = b i) (hz : z ≤ 120) (ha : a < z) : d_x2_meaningOf N s (srt b a (te b z a)) (a : Int) ((te b z a : Nat) : Int) = some (s, mng b a (te b z a)) := by
  have t := te_le (b := b) ha
  have hs := so_r (b a)
  unfold d_x2_meaningOf mng
  have hq : 1 ≤ srt b a (te b z a) ∧ srt b a (te b z a) ≤ 5 := by
    unfold srt
    split <;> omega
  rw [w32i (x := srt b a (te b z a)) (by omega) (by omega)]
  by_cases h1 : srt b a (te b z a) = 1
  · have hso : so (b a) = 1 := by
      unfold srt at h1
      split at h1 <;> omega
    rw [if_pos h1, if_pos h1, e_kow (by omega) hb (by omega) (fun l x y => so_1.mp ((te_all (Or.inl hso) x y).trans hso)), bI_some]
  · rw [if_neg h1, if_neg h1]
    by_cases h2 : srt b a (te b z a) = 2
    · rw [if_pos h2, if_pos h2]
      exact e_dec hb (by omega) (te b z a - a) N 0 (by omega) (by omega)
    · rw [if_neg h2, if_neg h2, w32i (x := (a : Int)) (by omega) (by omega), if_pos (by omega), Int.toNat_natCast, hb]
/-- the class's letters or digits go on -/
theorem e_48 {N : Nat} (hN : 100 ≤ N) {k6 : St → Int → Int → Option Rs} {b : Nat → Int} {s : St} {z : Nat} {x1 x3 st : Int} (hb : ∀ i, s 11 i = b i) (hr : ∀ i, i < z → 0 ≤ b i ∧ b i ≤ 255) (hz : s 1 1 = z ∧ z ≤ 120) (hst : 1 ≤ st ∧ st ≤ 5) : ∀ (f m a : Nat), a + f = z → f < m → d_x2_splitTape_48L N k6 m s x1 (a : Int) x3 st 1 = d_x2_splitTape_81 N k6 s x1 ((rn b z st a : Nat) : Int) x3 st := by
  intro f
  induction f with
  | zero =>
    intro m a ha hm
    obtain ⟨m, rfl⟩ : ∃ m', m = m' + 1 := ⟨m - 1, by omega⟩
    show d_x2_splitTape_48 N k6 (d_x2_splitTape_48L N k6 m) s x1 (a : Int) x3 st 1 = _
    unfold d_x2_splitTape_48
    rw [w32_1, if_neg (by decide), hz.1, show z = a by omega, if_neg (Int.lt_irrefl _), rn_end (Nat.le_refl a)]
  | succ f ih =>
    intro m a ha hm
    obtain ⟨m, rfl⟩ : ∃ m', m = m' + 1 := ⟨m - 1, by omega⟩
    have g := so_r (b a)
    show d_x2_splitTape_48 N k6 (d_x2_splitTape_48L N k6 m) s x1 (a : Int) x3 st 1 = _
    unfold d_x2_splitTape_48
    rw [w32_1, if_neg (by decide), hz.1, w32i (x := (a : Int)) (by omega) (by omega), w32i (x := (z : Int)) (by omega) (by omega), if_pos (by omega), if_pos (by omega), Int.toNat_natCast, hb, e_sort hN (hr a (by omega)), bI_some, w32i (x := so (b a)) (by omega) (by omega), w32i (x := st) (by omega) (by omega)]
    by_cases q : so (b a) = st
    · rw [if_pos q, bd_eq, rn_step (by omega) q]
      exact ih m (a + 1) (by omega) (by omega)
    · rw [if_neg q, rn_stop q]
end
section
theorem e_81 {N : Nat} (hN : 300 ≤ N) {k6 : St → Int → Int → Option Rs} {b : Nat → Int} {s : St} {z a j : Nat} (hb : ∀ i, s 11 i = b i) (hz : z ≤ 120) (ha : a < z) (hj : j < 121) (h5 : so (b a) ≠ 5) : d_x2_splitTape_81 N k6 s (j : Int) ((te b z a : Nat) : Int) (a : Int) (so (b a)) = k6 (up (up (up s 12 j (a : Int)) 13 j (srt b a (te b z a))) 14 j (mng b a (te b z a))) ((j : Int) + 1) ((te b z a : Nat) : Int) := by
  have t := te_le (b := b) ha
  have g := so_r (b a)
  have gj : 0 ≤ (j : Int) ∧ (j : Int) < ((121 : Nat) : Int) := by omega
  have wj : w32 (j : Int) = j := w32i (by omega) (by omega)
  have main : d_x2_splitTape_121 N k6 (up s 12 j (a : Int)) (j : Int) ((te b z a : Nat) : Int) (a : Int) (srt b a (te b z a)) (j : Int) = k6 (up (up (up s 12 j (a : Int)) 13 j (srt b a (te b z a))) 14 j (mng b a (te b z a))) ((j : Int) + 1) ((te b z a : Nat) : Int) := by
    unfold d_x2_splitTape_121 d_x2_splitTape_143
    rw [wj, if_pos gj, bd_eq, if_pos gj, Int.toNat_natCast, up_same, e_mean hN (b := b) (fun i => by rw [up_ne (by decide), up_ne (by decide)]; exact hb i) hz ha, bI_some, if_pos gj, bd_eq, bd_eq]
  unfold d_x2_splitTape_81 d_x2_splitTape_119
  rw [w32i (x := so (b a)) (by omega) (by omega), if_neg h5, wj, if_pos gj, bd_eq, Int.toNat_natCast, w32i (x := ((te b z a : Nat) : Int) - (a : Int)) (by omega) (by omega)]
  by_cases h2 : so (b a) = 2
  · rw [if_pos h2]
    by_cases h4 : 4 < te b z a - a
    · have e : srt b a (te b z a) = 4 := by unfold srt; rw [if_pos ⟨h2, h4⟩]
      rw [if_pos (by omega)]
      rw [e] at main ⊢
      exact main
    · have e : srt b a (te b z a) = so (b a) := by unfold srt; rw [if_neg (fun q => h4 q.2)]
      rw [if_neg (by omega)]
      rw [e] at main ⊢
      exact main
  · have e : srt b a (te b z a) = so (b a) := by unfold srt; rw [if_neg (fun q => h2 q.1)]
    rw [if_neg h2]
    rw [e] at main ⊢
    exact main
/-- the class's TOKENS -/
def SP (c s : St) (b : Nat → Int) (z j : Nat) : Prop := (∀ a k, ¬ (a = 12 ∨ a = 13 ∨ a = 14) → s a k = c a k) ∧ ∀ i, i < j → bgf b z i < z ∧ s 12 i = (bgf b z i : Nat) ∧ s 13 i = srt b (bgf b z i) (te b z (bgf b z i)) ∧ s 14 i = mng b (bgf b z i) (te b z (bgf b z i))
def SQ (c s : St) (b : Nat → Int) (z n : Nat) : Prop := SP c s b z n ∧ n ≤ z ∧ bgf b z n = z ∧ s 12 n = (z : Nat) ∧ s 13 n = 0 ∧ s 14 n = 0
theorem SP.add {c s : St} {b : Nat → Int} {z j a : Nat} (H : SP c s b z j) (ha : a < z) (e : bgf b z j = a) : SP c (up (up (up s 12 j (a : Int)) 13 j (srt b a (te b z a))) 14 j (mng b a (te b z a))) b z (j + 1) := by
  refine ⟨fun x k h => ?_, fun i hi => ?_⟩
  · rw [up_ne (by omega), up_ne (by omega), up_ne (by omega)]
    exact H.1 x k h
  · by_cases q : i = j
    · subst q
      rw [e]
      refine ⟨ha, ?_, ?_, ?_⟩
      · rw [up_ne (by decide), up_ne (by decide), up_same]
      · rw [up_ne (by decide), up_same]
      · rw [up_same]
    · have h := H.2 i (by omega)
      refine ⟨h.1, ?_, ?_, ?_⟩
      · rw [up_ne (by decide), up_ne (by decide), up_nj (by omega)]
        exact h.2.1
      · rw [up_ne (by decide), up_nj (by omega), up_ne (by decide)]
        exact h.2.2.1
      · rw [up_nj (by omega), up_ne (by decide), up_ne (by decide)]
        exact h.2.2.2
theorem e_split {N : Nat} (hN : 300 ≤ N) {c : St} {b : Nat → Int} {z : Nat} (hb : ∀ i, c 11 i = b i) (hr : ∀ i, i < z → 0 ≤ b i ∧ b i ≤ 255) (hz : c 1 1 = z ∧ z ≤ 120) : ∀ (f m a j : Nat) (s : St), z - a ≤ f → f < m → a ≤ z → j ≤ a → rn b z 5 a = bgf b z j → SP c s b z j → One (d_x2_splitTape_6L N m s (j : Int) (a : Int)) (fun s' _ => ∃ n, SQ c s' b z n) := by
  have fin : ∀ (m j : Nat) (s : St), j ≤ z → bgf b z j = z → SP c s b z j → One (d_x2_splitTape_6L N (m + 1) s (j : Int) (z : Int)) (fun s' _ => ∃ n, SQ c s' b z n) := by
    intro m j s hj he H
    have ez : s 1 1 = z := (H.1 1 1 (by omega)).trans hz.1
    have gj : 0 ≤ (j : Int) ∧ (j : Int) < ((121 : Nat) : Int) := by omega
    show One (d_x2_splitTape_6 N (d_x2_splitTape_6L N m) s (j : Int) (z : Int)) _
    unfold d_x2_splitTape_6
    rw [ez, if_neg (Int.lt_irrefl _), w32i (x := (j : Int)) (by omega) (by omega), if_pos gj, bd_eq, if_pos gj, bd_eq, if_pos gj, bd_eq, Int.toNat_natCast]
    refine One.ret ⟨j, ⟨⟨fun x k h => ?_, fun i hi => ?_⟩, hj, he, ?_, ?_, ?_⟩⟩
    · rw [up_ne (by omega), up_ne (by omega), up_ne (by omega)]
      exact H.1 x k h
    · have h := H.2 i hi
      refine ⟨h.1, ?_, ?_, ?_⟩
      · rw [up_ne (by decide), up_ne (by decide), up_nj (by omega)]
        exact h.2.1
      · rw [up_ne (by decide), up_nj (by omega), up_ne (by decide)]
        exact h.2.2.1
      · rw [up_nj (by omega), up_ne (by decide), up_ne (by decide)]
        exact h.2.2.2
    · rw [up_ne (by decide), up_ne (by decide), up_same]
    · rw [up_ne (by decide), up_same]
    · rw [up_same]
  intro f
  induction f with
  | zero =>
    intro m a j s hf hm haz hja he H
    obtain ⟨m, rfl⟩ : ∃ m', m = m' + 1 := ⟨m - 1, by omega⟩
    have : a = z := by omega
    subst this
    exact fin m j s hja (by rw [← he, rn_end (Nat.le_refl _)]) H
  | succ f ih =>
    intro m a j s hf hm haz hja he H
    obtain ⟨m, rfl⟩ : ∃ m', m = m' + 1 := ⟨m - 1, by omega⟩
    by_cases hend : a = z
    · subst hend
      exact fin m j s hja (by rw [← he, rn_end (Nat.le_refl _)]) H
    · have ez : s 1 1 = z := (H.1 1 1 (by omega)).trans hz.1
      have eb : ∀ i, s 11 i = b i := fun i => (H.1 11 i (by omega)).trans (hb i)
      have g := so_r (b a)
      show One (d_x2_splitTape_6 N (d_x2_splitTape_6L N m) s (j : Int) (a : Int)) _
      unfold d_x2_splitTape_6
      rw [ez, w32i (x := (a : Int)) (by omega) (by omega), w32i (x := (z : Int)) (by omega) (by omega), if_pos (by omega), if_pos (by omega), Int.toNat_natCast, eb, e_sort (by omega) (hr a (by omega)), bI_some, w32i (x := so (b a)) (by omega) (by omega)]
      have zero : ∀ k : St → Int → Int → Option Rs, d_x2_splitTape_42 N k s (j : Int) (a : Int) (so (b a)) 0 = d_x2_splitTape_81 N k s (j : Int) ((a : Int) + 1) (a : Int) (so (b a)) := by
        intro k
        unfold d_x2_splitTape_42
        rw [bd_eq]
        obtain ⟨m', hm'⟩ : ∃ m', N = m' + 1 := ⟨N - 1, by omega⟩
        have u : d_x2_splitTape_48L N k N s (j : Int) ((a : Int) + 1) (a : Int) (so (b a)) 0 = d_x2_splitTape_48 N k (d_x2_splitTape_48L N k m') s (j : Int) ((a : Int) + 1) (a : Int) (so (b a)) 0 := by
          conv => lhs; arg 3; rw [hm']
          rfl
        rw [u]
        unfold d_x2_splitTape_48
        rw [if_pos w32_0]
      by_cases h5 : so (b a) = 5
      · rw [if_neg (by omega), if_neg (by omega), zero, h5]
        unfold d_x2_splitTape_81 d_x2_splitTape_143
        rw [if_pos (by decide)]
        exact ih m (a + 1) j s (by omega) (by omega) (by omega) (by omega) (by rw [← rn_step (by omega) h5]; exact he) H
      · have ea : bgf b z j = a := by rw [← he, rn_stop h5]
        have t := te_le (b := b) (show a < z by omega)
        have nx : bgf b z (j + 1) = rn b z 5 (te b z a) := by
          show (if bgf b z j < z then rn b z 5 (te b z (bgf b z j)) else z) = _
          rw [ea, if_pos (by omega)]
        have go : One (d_x2_splitTape_81 N (d_x2_splitTape_6L N m) s (j : Int) ((te b z a : Nat) : Int) (a : Int) (so (b a))) (fun s' _ => ∃ n, SQ c s' b z n) := by
          rw [e_81 hN eb hz.2 (by omega) (by omega) h5]
          exact ih m (te b z a) (j + 1) _ (by omega) (by omega) (by omega) (by omega) nx.symm (H.add (by omega) ea)
        by_cases h12 : so (b a) = 1 ∨ so (b a) = 2
        · have et : te b z a = rn b z (so (b a)) (a + 1) := by unfold te; rw [if_pos h12]
          have one : d_x2_splitTape_37 N (d_x2_splitTape_6L N m) s (j : Int) (a : Int) (so (b a)) = d_x2_splitTape_81 N (d_x2_splitTape_6L N m) s (j : Int) ((te b z a : Nat) : Int) (a : Int) (so (b a)) := by
            unfold d_x2_splitTape_37 d_x2_splitTape_42
            rw [bd_eq, et]
            exact e_48 (by omega) eb hr ⟨ez, hz.2⟩ g (z - (a + 1)) N (a + 1) (by omega) (by omega)
          by_cases h1 : so (b a) = 1
          · rw [if_pos h1, one]
            exact go
          · rw [if_neg h1, if_pos (by omega), one]
            exact go
        · have et : te b z a = a + 1 := by unfold te; rw [if_neg h12]
          rw [if_neg (by omega), if_neg (by omega), zero]
          rw [et] at go
          exact go
theorem e_splitT {N : Nat} (hN : 300 ≤ N) {c : St} {b : Nat → Int} {z : Nat} (hb : ∀ i, c 11 i = b i) (hr : ∀ i, i < z → 0 ≤ b i ∧ b i ≤ 255) (hz : c 1 1 = z ∧ z ≤ 120) : One (d_x2_splitTape N c) (fun s' _ => ∃ n, SQ c s' b z n) := by
  unfold d_x2_splitTape
  exact e_split hN hb hr hz z N 0 0 c (by omega) (by omega) (by omega) (by omega) rfl ⟨fun _ _ _ => rfl, fun i hi => absurd hi (by omega)⟩
end
section
/-- the model's tape -/
def MB (r : St) (b : Nat → Int) (z : Nat) : Prop := r 77 19 = z ∧ z ≤ 120 ∧ ∀ i, i < z → r 94 i = b i ∧ 0 ≤ b i ∧ b i ≤ 255
theorem MB.cong {r r' : St} {b : Nat → Int} {z : Nat} (H : MB r b z) (e : r' 77 19 = r 77 19) (f : ∀ k, r' 94 k = r 94 k) : MB r' b z := ⟨e.trans H.1, H.2.1, fun i hi => ⟨(f i).trans (H.2.2 i hi).1, (H.2.2 i hi).2⟩⟩
theorem m_byte {N : Nat} {r : St} {b : Nat → Int} {z a : Nat} (H : MB r b z) (ha : a ≤ 200) : d_x8_byteAt N r (a : Int) = some (r, if a < z then b a else -1) := by
  have h1 := H.1
  have h2 := H.2.1
  unfold d_x8_byteAt
  rw [h1, w32i (x := (a : Int)) (by omega) (by omega), w32i (x := (z : Int)) (by omega) (by omega)]
  by_cases h : a < z
  · rw [if_pos (by omega), if_pos (by omega), if_pos h, Int.toNat_natCast, (H.2.2 a h).1]
  · rw [if_neg (by omega), if_neg h]
theorem m_let {N : Nat} {r : St} {b : Nat → Int} {z a e : Nat} {x : Int} (H : MB r b z) (h22 : r 77 22 = a) (h20 : r 77 20 = e) (he : a < e ∧ e ≤ z) (l : Nat) (hl : l < 5) (hx : 0 ≤ x ∧ x < 128) : d_x8_isLetter N r (l : Int) x = some (r, if (if l < e - a then b (a + l) else 0) = x then 1 else 0) := by
  have hz := H.2.1
  unfold d_x8_isLetter
  rw [h22, h20, w32i (x := (a : Int) + (l : Int)) (by omega) (by omega), w32i (x := (e : Int)) (by omega) (by omega), w32i (x := x) (by omega) (by omega)]
  by_cases h : l < e - a
  · have g := H.2.2 (a + l) (by omega)
    rw [if_pos (by omega), if_pos h, show (a : Int) + (l : Int) = ((a + l : Nat) : Int) by omega, m_byte H (by omega), bI_some, if_pos (show a + l < z by omega), w32i (x := b (a + l)) (by omega) (by omega)]
    by_cases y : b (a + l) = x
    · rw [if_pos y, if_pos y]
    · rw [if_neg y, if_neg y]
  · rw [if_neg (by omega), if_neg h]
    by_cases y : x = 0
    · rw [if_pos y, if_pos y.symm]
    · rw [if_neg y, if_neg (fun q => y q.symm)]
theorem m_isw {N : Nat} {r : St} {b : Nat → Int} {z a e k : Nat} {x0 x1 x2 x3 x4 : Int} (H : MB r b z) (h22 : r 77 22 = a) (h20 : r 77 20 = e) (he : a < e ∧ e ≤ z) (hx : tl k = [x0, x1, x2, x3, x4] ∨ (x4 = 0 ∧ tl k = [x0, x1, x2, x3]) ∨ (x4 = 0 ∧ x3 = 0 ∧ tl k = [x0, x1, x2])) (h0 : (0 ≤ x0 ∧ x0 < 128) ∧ (0 ≤ x1 ∧ x1 < 128) ∧ (0 ≤ x2 ∧ x2 < 128) ∧ (0 ≤ x3 ∧ x3 < 128) ∧ (0 ≤ x4 ∧ x4 < 128)) : (mw b a (e - a) k → d_x8_isWord N r x0 x1 x2 x3 x4 = some (r, 1)) ∧ (¬ mw b a (e - a) k → d_x8_isWord N r x0 x1 x2 x3 x4 = some (r, 0)) := by
  have hz := H.2.1
  have g : (tl k).getD 0 0 = x0 ∧ (tl k).getD 1 0 = x1 ∧ (tl k).getD 2 0 = x2 ∧ (tl k).getD 3 0 = x3 ∧ (tl k).getD 4 0 = x4 := by
    rcases hx with q | q | q
    · rw [q]
      exact ⟨rfl, rfl, rfl, rfl, rfl⟩
    · rw [q.2, q.1]
      exact ⟨rfl, rfl, rfl, rfl, rfl⟩
    · rw [q.2.2, q.1, q.2.1]
      exact ⟨rfl, rfl, rfl, rfl, rfl⟩
  have l0 := m_let (N := N) (x := x0) H h22 h20 he 0 (by decide) h0.1
  have l1 := m_let (N := N) (x := x1) H h22 h20 he 1 (by decide) h0.2.1
  have l2 := m_let (N := N) (x := x2) H h22 h20 he 2 (by decide) h0.2.2.1
  have l3 := m_let (N := N) (x := x3) H h22 h20 he 3 (by decide) h0.2.2.2.1
  have l4 := m_let (N := N) (x := x4) H h22 h20 he 4 (by decide) h0.2.2.2.2
  have f0 : d_x8_isLetter N r 0 x0 = some (r, if (if 0 < e - a then b (a + 0) else 0) = x0 then 1 else 0) := l0
  have f1 : d_x8_isLetter N r 1 x1 = some (r, if (if 1 < e - a then b (a + 1) else 0) = x1 then 1 else 0) := l1
  have f2 : d_x8_isLetter N r 2 x2 = some (r, if (if 2 < e - a then b (a + 2) else 0) = x2 then 1 else 0) := l2
  have f3 : d_x8_isLetter N r 3 x3 = some (r, if (if 3 < e - a then b (a + 3) else 0) = x3 then 1 else 0) := l3
  have f4 : d_x8_isLetter N r 4 x4 = some (r, if (if 4 < e - a then b (a + 4) else 0) = x4 then 1 else 0) := l4
  have cut : ∀ q : mw b a (e - a) k, (if 0 < e - a then b (a + 0) else 0) = x0 ∧ (if 1 < e - a then b (a + 1) else 0) = x1 ∧ (if 2 < e - a then b (a + 2) else 0) = x2 ∧ (if 3 < e - a then b (a + 3) else 0) = x3 ∧ (if 4 < e - a then b (a + 4) else 0) = x4 := fun q => ⟨(q.2 0 (by decide)).trans g.1, (q.2 1 (by decide)).trans g.2.1, (q.2 2 (by decide)).trans g.2.2.1, (q.2 3 (by decide)).trans g.2.2.2.1, (q.2 4 (by decide)).trans g.2.2.2.2⟩
  have join : e - a ≤ 5 → ((if 0 < e - a then b (a + 0) else 0) = x0 ∧ (if 1 < e - a then b (a + 1) else 0) = x1 ∧ (if 2 < e - a then b (a + 2) else 0) = x2 ∧ (if 3 < e - a then b (a + 3) else 0) = x3 ∧ (if 4 < e - a then b (a + 4) else 0) = x4) → mw b a (e - a) k := fun h5 q => ⟨h5, fun l hl => by
    have hl' : l = 0 ∨ l = 1 ∨ l = 2 ∨ l = 3 ∨ l = 4 := by omega
    rcases hl' with e | e | e | e | e <;> subst e
    · exact q.1.trans g.1.symm
    · exact q.2.1.trans g.2.1.symm
    · exact q.2.2.1.trans g.2.2.1.symm
    · exact q.2.2.2.1.trans g.2.2.2.1.symm
    · exact q.2.2.2.2.trans g.2.2.2.2.symm⟩
  unfold d_x8_isWord
  rw [h22, h20, w32i (x := (a : Int) + 5) (by omega) (by omega), w32i (x := (e : Int)) (by omega) (by omega), f0, bI_some, f1, bI_some, f2, bI_some, f3, bI_some, f4, bI_some]
  generalize (if 0 < e - a then b (a + 0) else 0) = y0 at *
  generalize (if 1 < e - a then b (a + 1) else 0) = y1 at *
  generalize (if 2 < e - a then b (a + 2) else 0) = y2 at *
  generalize (if 3 < e - a then b (a + 3) else 0) = y3 at *
  generalize (if 4 < e - a then b (a + 4) else 0) = y4 at *
  by_cases h5 : (a : Int) + 5 < (e : Int)
  · rw [if_pos h5]
    exact ⟨fun q => by have := q.1; omega, fun _ => rfl⟩
  · rw [if_neg h5]
    by_cases c0 : y0 = x0
    · rw [if_pos c0, w32_1, if_neg (by decide)]
      by_cases c1 : y1 = x1
      · rw [if_pos c1, w32_1, if_neg (by decide)]
        by_cases c2 : y2 = x2
        · rw [if_pos c2, w32_1, if_neg (by decide)]
          by_cases c3 : y3 = x3
          · rw [if_pos c3, w32_1, if_neg (by decide)]
            by_cases c4 : y4 = x4
            · rw [if_pos c4, w32_1, if_neg (by decide)]
              exact ⟨fun _ => rfl, fun q => absurd (join (by omega) ⟨c0, c1, c2, c3, c4⟩) q⟩
            · rw [if_neg c4, if_pos w32_0]
              exact ⟨fun q => absurd (cut q).2.2.2.2 c4, fun _ => rfl⟩
          · rw [if_neg c3, if_pos w32_0]
            exact ⟨fun q => absurd (cut q).2.2.2.1 c3, fun _ => rfl⟩
        · rw [if_neg c2, if_pos w32_0]
          exact ⟨fun q => absurd (cut q).2.2.1 c2, fun _ => rfl⟩
      · rw [if_neg c1, if_pos w32_0]
        exact ⟨fun q => absurd (cut q).2.1 c1, fun _ => rfl⟩
    · rw [if_neg c0, if_pos w32_0]
      exact ⟨fun q => absurd (cut q).1 c0, fun _ => rfl⟩
theorem m_36 {N : Nat} {r : St} {b : Nat → Int} {z a e : Nat} (H : MB r b z) (h22 : r 77 22 = a) (h20 : r 77 20 = e) (he : a < e ∧ e ≤ z) : d_x8_kindOf_36 N r = some (r, fk b a (e - a) 13 1) := by
  unfold d_x8_kindOf_36
  have k1 := m_isw (N := N) (k := 1) (x0 := 102) (x1 := 114) (x2 := 111) (x3 := 109) (x4 := 0) H h22 h20 he (Or.inr (Or.inl ⟨rfl, by decide +kernel⟩)) (by decide)
  by_cases q1 : mw b a (e - a) 1
  · rw [k1.1 q1, bI_some, if_neg (by decide), fk_y q1]
    rfl
  rw [k1.2 q1, bI_some, if_pos (by decide), fk_n q1]
  have k2 := m_isw (N := N) (k := 2) (x0 := 108) (x1 := 105) (x2 := 115) (x3 := 116) (x4 := 0) H h22 h20 he (Or.inr (Or.inl ⟨rfl, by decide +kernel⟩)) (by decide)
  by_cases q2 : mw b a (e - a) 2
  · rw [k2.1 q2, bI_some, if_neg (by decide), fk_y q2]
    rfl
  rw [k2.2 q2, bI_some, if_pos (by decide), fk_n q2]
  have k3 := m_isw (N := N) (k := 3) (x0 := 109) (x1 := 97) (x2 := 112) (x3 := 0) (x4 := 0) H h22 h20 he (Or.inr (Or.inr ⟨rfl, rfl, by decide +kernel⟩)) (by decide)
  by_cases q3 : mw b a (e - a) 3
  · rw [k3.1 q3, bI_some, if_neg (by decide), fk_y q3]
    rfl
  rw [k3.2 q3, bI_some, if_pos (by decide), fk_n q3]
  have k4 := m_isw (N := N) (k := 4) (x0 := 107) (x1 := 101) (x2 := 101) (x3 := 112) (x4 := 0) H h22 h20 he (Or.inr (Or.inl ⟨rfl, by decide +kernel⟩)) (by decide)
  by_cases q4 : mw b a (e - a) 4
  · rw [k4.1 q4, bI_some, if_neg (by decide), fk_y q4]
    rfl
  rw [k4.2 q4, bI_some, if_pos (by decide), fk_n q4]
  have k5 := m_isw (N := N) (k := 5) (x0 := 119) (x1 := 104) (x2 := 105) (x3 := 108) (x4 := 101) H h22 h20 he (Or.inl (by decide +kernel)) (by decide)
  by_cases q5 : mw b a (e - a) 5
  · rw [k5.1 q5, bI_some, if_neg (by decide), fk_y q5]
    rfl
  rw [k5.2 q5, bI_some, if_pos (by decide), fk_n q5]
  have k6 := m_isw (N := N) (k := 6) (x0 := 122) (x1 := 105) (x2 := 112) (x3 := 0) (x4 := 0) H h22 h20 he (Or.inr (Or.inr ⟨rfl, rfl, by decide +kernel⟩)) (by decide)
  by_cases q6 : mw b a (e - a) 6
  · rw [k6.1 q6, bI_some, if_neg (by decide), fk_y q6]
    rfl
  rw [k6.2 q6, bI_some, if_pos (by decide), fk_n q6]
  have k7 := m_isw (N := N) (k := 7) (x0 := 109) (x1 := 101) (x2 := 114) (x3 := 103) (x4 := 101) H h22 h20 he (Or.inl (by decide +kernel)) (by decide)
  by_cases q7 : mw b a (e - a) 7
  · rw [k7.1 q7, bI_some, if_neg (by decide), fk_y q7]
    rfl
  rw [k7.2 q7, bI_some, if_pos (by decide), fk_n q7]
  have k8 := m_isw (N := N) (k := 8) (x0 := 116) (x1 := 97) (x2 := 107) (x3 := 101) (x4 := 0) H h22 h20 he (Or.inr (Or.inl ⟨rfl, by decide +kernel⟩)) (by decide)
  by_cases q8 : mw b a (e - a) 8
  · rw [k8.1 q8, bI_some, if_neg (by decide), fk_y q8]
    rfl
  rw [k8.2 q8, bI_some, if_pos (by decide), fk_n q8]
  have k9 := m_isw (N := N) (k := 9) (x0 := 100) (x1 := 114) (x2 := 111) (x3 := 112) (x4 := 0) H h22 h20 he (Or.inr (Or.inl ⟨rfl, by decide +kernel⟩)) (by decide)
  by_cases q9 : mw b a (e - a) 9
  · rw [k9.1 q9, bI_some, if_neg (by decide), fk_y q9]
    rfl
  rw [k9.2 q9, bI_some, if_pos (by decide), fk_n q9]
  have k10 := m_isw (N := N) (k := 10) (x0 := 115) (x1 := 99) (x2 := 97) (x3 := 110) (x4 := 0) H h22 h20 he (Or.inr (Or.inl ⟨rfl, by decide +kernel⟩)) (by decide)
  by_cases q10 : mw b a (e - a) 10
  · rw [k10.1 q10, bI_some, if_neg (by decide), fk_y q10]
    rfl
  rw [k10.2 q10, bI_some, if_pos (by decide), fk_n q10]
  have k11 := m_isw (N := N) (k := 11) (x0 := 115) (x1 := 105) (x2 := 101) (x3 := 118) (x4 := 101) H h22 h20 he (Or.inl (by decide +kernel)) (by decide)
  by_cases q11 : mw b a (e - a) 11
  · rw [k11.1 q11, bI_some, if_neg (by decide), fk_y q11]
    rfl
  rw [k11.2 q11, bI_some, if_pos (by decide), fk_n q11]
  have k12 := m_isw (N := N) (k := 12) (x0 := 99) (x1 := 111) (x2 := 110) (x3 := 115) (x4 := 0) H h22 h20 he (Or.inr (Or.inl ⟨rfl, by decide +kernel⟩)) (by decide)
  by_cases q12 : mw b a (e - a) 12
  · rw [k12.1 q12, bI_some, if_neg (by decide), fk_y q12]
    rfl
  rw [k12.2 q12, bI_some, if_pos (by decide), fk_n q12]
  have k13 := m_isw (N := N) (k := 13) (x0 := 99) (x1 := 117) (x2 := 116) (x3 := 0) (x4 := 0) H h22 h20 he (Or.inr (Or.inr ⟨rfl, rfl, by decide +kernel⟩)) (by decide)
  by_cases q13 : mw b a (e - a) 13
  · rw [k13.1 q13, bI_some, if_neg (by decide), fk_y q13]
    rfl
  rw [k13.2 q13, bI_some, if_pos (by decide), fk_n q13]
  rfl
theorem m_kof {N : Nat} {r : St} {b : Nat → Int} {z a e : Nat} (H : MB r b z) (h22 : r 77 22 = a) (h20 : r 77 20 = e) (he : a < e ∧ e ≤ z) (hl : 97 ≤ b a ∧ b a ≤ 122) : d_x8_kindOf N r = some (r, kd b a (e - a)) := by
  have hz := H.2.1
  unfold d_x8_kindOf kd
  have m := m_36 (N := N) H h22 h20 he
  rw [h20, h22, w32i (x := (a : Int) + 1) (by omega) (by omega), w32i (x := (e : Int)) (by omega) (by omega)]
  by_cases h1 : e - a = 1
  · rw [if_pos (by omega), m_byte H (by omega), bI_some, if_pos (show a < z by omega), if_pos h1]
    by_cases h2 : b a < 105
    · rw [int (by unfold r32; omega) (by unfold r32; omega) (by unfold r32; omega) (by omega), bI_some, if_neg (by decide), if_pos h2]
    · rw [inf (by unfold r32; omega) (by unfold r32; omega) (by unfold r32; omega) (by omega), bI_some, if_pos (by decide), if_neg h2, m, h1, fk_1 13 1 (by omega) (by omega)]
  · rw [if_neg (by omega), if_neg h1, m]
end
section
theorem up_o {s : St} {a j b k : Nat} {x : Int} (h : ¬ (b = a ∧ k = j)) : up s a j x b k = s b k := if_neg h
def tkm (b : Nat → Int) (a e : Nat) : Int := if srt b a e = 1 ∧ kd b a (e - a) = -1 then 4 else srt b a e
/-- the model's TOKEN is TOKEN j -/
def TKM (r : St) (b : Nat → Int) (z j : Nat) : Prop := r 77 22 = (bgf b z j : Nat) ∧ (bgf b z j = z → r 77 21 = 0) ∧ (bgf b z j < z → r 77 21 = tkm b (bgf b z j) (te b z (bgf b z j)) ∧ (r 77 21 ≠ 4 → r 77 20 = (te b z (bgf b z j) : Nat)) ∧ (r 77 21 = 2 ∨ r 77 21 = 3 → r 77 23 = mng b (bgf b z j) (te b z (bgf b z j))))
def NF (r r' : St) : Prop := ∀ x k, ¬ (x = 77 ∧ 20 ≤ k ∧ k ≤ 23) → r' x k = r x k
theorem MB.nf {r r' : St} {b : Nat → Int} {z : Nat} (H : MB r b z) (f : NF r r') : MB r' b z := H.cong (f _ _ (by omega)) (fun k => f _ _ (by omega))
theorem m_95 {N : Nat} {b : Nat → Int} {z a e : Nat} (hae : a < e ∧ e ≤ z) (hl : 97 ≤ b a ∧ b a ≤ 122) : ∀ (f m p : Nat) (r : St), p + f = z → f < m → MB r b z → r 77 20 = p → r 77 22 = a → rn b z 1 p = e → One (d_x8_next_95L N m r) (fun r' _ => r' 77 20 = e ∧ r' 77 21 = (if kd b a (e - a) = -1 then 4 else 1) ∧ ∀ x k, ¬ (x = 77 ∧ (k = 20 ∨ k = 21)) → r' x k = r x k) := by
  have hkd : -1 ≤ kd b a (e - a) ∧ kd b a (e - a) ≤ 13 := by
    unfold kd
    have := fk_r (b := b) (a := a) (n := e - a) 13 1
    split
    · split <;> omega
    · omega
  have fin : ∀ (r : St), MB r b z → r 77 20 = e → r 77 22 = a → One (bI (d_x8_kindOf N r) fun s16 v17 => (if (w32 v17) = (-1) then d_x8_next_143 N s16 4 else d_x8_next_143 N s16 1)) (fun r' _ => r' 77 20 = e ∧ r' 77 21 = (if kd b a (e - a) = -1 then 4 else 1) ∧ ∀ x k, ¬ (x = 77 ∧ (k = 20 ∨ k = 21)) → r' x k = r x k) := by
    intro r H h20 h22
    rw [m_kof H h22 h20 hae hl, bI_some, w32i (x := kd b a (e - a)) (by omega) (by omega)]
    unfold d_x8_next_143
    by_cases q : kd b a (e - a) = -1
    · rw [if_pos q, if_pos q, bd_eq]
      exact One.ret ⟨by rw [up_nj (by decide)]; exact h20, up_same, fun x k h => up_o (by omega)⟩
    · rw [if_neg q, if_neg q, bd_eq]
      exact One.ret ⟨by rw [up_nj (by decide)]; exact h20, up_same, fun x k h => up_o (by omega)⟩
  intro f
  induction f with
  | zero =>
    intro m p r hp hm H h20 h22 hr
    obtain ⟨m, rfl⟩ : ∃ m', m = m' + 1 := ⟨m - 1, by omega⟩
    have hz := H.2.1
    have ep : p = e := by rw [← hr, rn_end (by omega)]
    show One (d_x8_next_95 N (d_x8_next_95L N m) r) _
    unfold d_x8_next_95
    rw [h20, m_byte H (by omega), bI_some, if_neg (by omega), inf (by unfold r32; omega) (by unfold r32; omega) (by unfold r32; omega) (by omega), bI_some, if_pos (by decide)]
    exact fin r H (by rw [h20, ep]) h22
  | succ f ih =>
    intro m p r hp hm H h20 h22 hr
    obtain ⟨m, rfl⟩ : ∃ m', m = m' + 1 := ⟨m - 1, by omega⟩
    have hz := H.2.1
    have g := (H.2.2 p (by omega)).2
    show One (d_x8_next_95 N (d_x8_next_95L N m) r) _
    unfold d_x8_next_95
    rw [h20, m_byte H (by omega), bI_some, if_pos (show p < z by omega)]
    by_cases q : so (b p) = 1
    · have q' := so_1.mp q
      rw [int (by unfold r32; omega) (by unfold r32; omega) (by unfold r32; omega) q', bI_some, if_neg (by decide), bd_eq, h20]
      have I := ih m (p + 1) (up r 77 20 ((p : Int) + 1)) (by omega) (by omega) (H.cong (up_nj (by decide)) (fun k => up_ne (by decide))) (by rw [up_same]; omega) (by rw [up_nj (by decide)]; exact h22) (by rw [← rn_step (by omega) q]; exact hr)
      exact I.mono (fun s v w => ⟨w.1, w.2.1, fun x k h => (w.2.2 x k h).trans (up_o (by omega))⟩)
    · have q' : ¬ (97 ≤ b p ∧ b p ≤ 122) := fun y => q (so_1.mpr y)
      rw [inf (by unfold r32; omega) (by unfold r32; omega) (by unfold r32; omega) q', bI_some, if_pos (by decide)]
      have ep : p = e := by rw [← hr, rn_stop q]
      exact fin r H (by rw [h20, ep]) h22
theorem m_170 {N : Nat} {b : Nat → Int} {z a e : Nat} (hae : a ≤ e ∧ e ≤ z) : ∀ (f m n : Nat) (r : St), a + n + f = z → f < m → MB r b z → r 77 20 = ((a + n : Nat) : Int) → r 77 23 = dv b a (min n 4) → rn b z 2 (a + n) = e → One (d_x8_next_170L N m r (n : Int)) (fun r' _ => r' 77 20 = e ∧ r' 77 21 = (if 4 < e - a then 4 else 2) ∧ r' 77 23 = dv b a (min (e - a) 4) ∧ NF r r' ∧ r' 77 22 = r 77 22) := by
  have fin : ∀ (r : St) (n : Nat), n ≤ 120 → a + n = e → MB r b z → r 77 20 = ((a + n : Nat) : Int) → r 77 23 = dv b a (min n 4) → One (if 4 < (w32 (n : Int)) then d_x8_next_253 N r 4 else d_x8_next_253 N r 2) (fun r' _ => r' 77 20 = e ∧ r' 77 21 = (if 4 < e - a then 4 else 2) ∧ r' 77 23 = dv b a (min (e - a) 4) ∧ NF r r' ∧ r' 77 22 = r 77 22) := by
    intro r n hn hne H h20 h23
    have en : e - a = n := by omega
    rw [w32i (x := (n : Int)) (by omega) (by omega), en]
    unfold d_x8_next_253
    by_cases q : 4 < n
    · rw [if_pos (by omega), if_pos q, bd_eq]
      exact One.ret ⟨by rw [up_nj (by decide), h20, hne], up_same, by rw [up_nj (by decide)]; exact h23, fun x k h => up_o (by omega), up_nj (by decide)⟩
    · rw [if_neg (by omega), if_neg q, bd_eq]
      exact One.ret ⟨by rw [up_nj (by decide), h20, hne], up_same, by rw [up_nj (by decide)]; exact h23, fun x k h => up_o (by omega), up_nj (by decide)⟩
  intro f
  induction f with
  | zero =>
    intro m n r hp hm H h20 h23 hr
    obtain ⟨m, rfl⟩ : ∃ m', m = m' + 1 := ⟨m - 1, by omega⟩
    have hz := H.2.1
    have ep : a + n = e := by rw [← hr, rn_end (by omega)]
    show One (d_x8_next_170 N (d_x8_next_170L N m) r (n : Int)) _
    unfold d_x8_next_170
    rw [h20, m_byte H (by omega), bI_some, if_neg (by omega), inf (by unfold r32; omega) (by unfold r32; omega) (by unfold r32; omega) (by omega), bI_some, if_pos (by decide)]
    exact fin r n (by omega) ep H h20 h23
  | succ f ih =>
    intro m n r hp hm H h20 h23 hr
    obtain ⟨m, rfl⟩ : ∃ m', m = m' + 1 := ⟨m - 1, by omega⟩
    have hz := H.2.1
    have g := (H.2.2 (a + n) (by omega)).2
    show One (d_x8_next_170 N (d_x8_next_170L N m) r (n : Int)) _
    unfold d_x8_next_170
    rw [h20, m_byte H (by omega), bI_some, if_pos (show a + n < z by omega)]
    by_cases q : so (b (a + n)) = 2
    · have q' := so_2.mp q
      rw [int (by unfold r32; omega) (by unfold r32; omega) (by unfold r32; omega) q', bI_some, if_neg (by decide), w32i (x := (n : Int)) (by omega) (by omega), h20, h23]
      have step : ∀ w : Int, w = dv b a (min (n + 1) 4) → One (d_x8_next_223 N (d_x8_next_170L N m) r (n : Int) w) (fun r' _ => r' 77 20 = e ∧ r' 77 21 = (if 4 < e - a then 4 else 2) ∧ r' 77 23 = dv b a (min (e - a) 4) ∧ NF r r' ∧ r' 77 22 = r 77 22) := by
        intro w hw
        unfold d_x8_next_223
        rw [bd_eq, bd_eq, bd_eq, up_nj (show (20 : Nat) ≠ 23 by decide), h20]
        have I := ih m (n + 1) (up (up r 77 23 w) 77 20 (((a + n : Nat) : Int) + 1)) (by omega) (by omega) (H.cong (by rw [up_nj (by decide), up_nj (by decide)]) (fun k => by rw [up_ne (by decide), up_ne (by decide)])) (by rw [up_same]; omega) (by rw [up_nj (by decide), up_same]; exact hw) (by rw [← hr, rn_step (by omega) q]; rfl)
        exact I.mono (fun s v w => ⟨w.1, w.2.1, w.2.2.1, fun x k h => (w.2.2.2.1 x k h).trans (by rw [up_o (by omega), up_o (by omega)]), w.2.2.2.2.trans (by rw [up_nj (by decide), up_nj (by decide)])⟩)
      by_cases h4 : n < 4
      · rw [if_pos (by omega), m_byte H (by omega), bI_some, if_pos (show a + n < z by omega)]
        refine step _ ?_
        rw [show min (n + 1) 4 = n + 1 by omega, show min n 4 = n by omega]
        show 10 * dv b a n + b (a + n) - 48 = dv b a n * 10 + b (a + n) - 48
        omega
      · rw [if_neg (by omega)]
        exact step _ (by rw [show min (n + 1) 4 = min n 4 by omega])
    · have q' : ¬ (48 ≤ b (a + n) ∧ b (a + n) ≤ 57) := fun y => q (so_2.mpr y)
      rw [inf (by unfold r32; omega) (by unfold r32; omega) (by unfold r32; omega) q', bI_some, if_pos (by decide)]
      have ep : a + n = e := by rw [← hr, rn_stop q]
      exact fin r n (by omega) ep H h20 h23
end
section
theorem m_sgb {N : Nat} {s : St} {x : Int} (hx : 0 ≤ x ∧ x ≤ 255) : d_x8_isSignByte N s x = some (s, if so x = 3 then 1 else 0) := by
  unfold d_x8_isSignByte d_x8_isSignByte_54
  rw [w32i (x := x) (by omega) (by omega)]
  by_cases h : so x = 3
  · rw [if_pos h]
    rcases so_3.mp h with e | e | e | e | e | e | e | e | e <;> rw [e] <;> rfl
  · have h' : ¬ (x = 43 ∨ x = 45 ∨ x = 42 ∨ x = 47 ∨ x = 37 ∨ x = 60 ∨ x = 62 ∨ x = 61 ∨ x = 44) := fun q => h (so_3.mpr q)
    rw [if_neg h, if_neg (by omega), if_neg (by omega), if_neg (by omega), if_neg (by omega), if_neg (by omega), if_neg (by omega), if_neg (by omega), if_neg (by omega), if_neg (by omega)]
theorem srt_s {b : Nat → Int} {a e : Nat} (h : so (b a) ≠ 2) : srt b a e = so (b a) := by
  unfold srt
  rw [if_neg (fun q => h q.1)]
theorem tkm_s {b : Nat → Int} {a e : Nat} (h : so (b a) ≠ 1) : tkm b a e = srt b a e := by
  unfold tkm
  refine if_neg (fun q => ?_)
  have q1 := q.1
  unfold srt at q1
  split at q1
  · exact absurd q1 (by decide)
  · exact h q1
/-- the model's next TOKEN -/
theorem m_next {N : Nat} (hN : 500 ≤ N) {b : Nat → Int} {z j : Nat} : ∀ (f m p : Nat) (r : St), p + f = z → f < m → MB r b z → r 77 20 = p → rn b z 5 p = bgf b z j → One (d_x8_next_0L N m r) (fun r' _ => TKM r' b z j ∧ NF r r') := by
  intro f
  induction f with
  | zero =>
    intro m p r hp hm H h20 hr
    obtain ⟨m, rfl⟩ : ∃ m', m = m' + 1 := ⟨m - 1, by omega⟩
    have hz := H.2.1
    have ep : p = z := by omega
    have eb : bgf b z j = z := by rw [← hr, rn_end (by omega), ep]
    have H2 : MB (up r 77 22 (p : Int)) b z := H.cong (up_nj (by decide)) (fun k => up_ne (by decide))
    have e22 : up r 77 22 (p : Int) 77 20 = (p : Int) := by rw [up_nj (by decide)]; exact h20
    show One (d_x8_next_0 N (d_x8_next_0L N m) r) _
    unfold d_x8_next_0
    rw [h20, m_byte H (by omega), bI_some, if_neg (show ¬ p < z by omega), if_neg (by decide), h20, m_byte H (by omega), bI_some, if_neg (show ¬ p < z by omega), if_neg (by decide), bd_eq, h20, e22, m_byte H2 (by omega), bI_some, if_neg (show ¬ p < z by omega), bd_eq, if_pos (by decide), bd_eq, bd_eq]
    refine One.ret ⟨⟨?_, fun _ => ?_, fun q => ?_⟩, fun x k h => ?_⟩
    · rw [up_same, up_nj (by decide), up_nj (by decide), up_nj (by decide), H.1, eb]
    · rw [up_nj (by decide), up_same]
    · rw [eb] at q
      exact absurd q (Nat.lt_irrefl _)
    · rw [up_o (by omega), up_o (by omega), up_o (by omega), up_o (by omega)]
  | succ f ih =>
    intro m p r hp hm H h20 hr
    obtain ⟨m, rfl⟩ : ∃ m', m = m' + 1 := ⟨m - 1, by omega⟩
    have hz := H.2.1
    have g := (H.2.2 p (by omega)).2
    have gs := so_r (b p)
    show One (d_x8_next_0 N (d_x8_next_0L N m) r) _
    unfold d_x8_next_0 d_x8_next_26
    rw [h20, m_byte H (by omega), bI_some, if_pos (show p < z by omega), w32i (x := b p) (by omega) (by omega)]
    by_cases h5 : so (b p) = 5
    · have I := ih m (p + 1) (up r 77 20 ((p : Int) + 1)) (by omega) (by omega) (H.cong (up_nj (by decide)) (fun k => up_ne (by decide))) (by rw [up_same]; omega) (by rw [← rn_step (by omega) h5]; exact hr)
      have I2 := I.mono (Q' := fun r' _ => TKM r' b z j ∧ NF r r') (fun s v w => ⟨w.1, fun x k h => (w.2 x k h).trans (up_o (by omega))⟩)
      by_cases q : b p = 32
      · rw [if_pos q, bd_eq, h20]
        exact I2
      · have q2 : b p = 10 := by have := so_5.mp h5; omega
        rw [if_neg q, h20, m_byte H (by omega), bI_some, if_pos (show p < z by omega), w32i (x := b p) (by omega) (by omega), if_pos q2, bd_eq, h20]
        exact I2
    · have h5' : ¬ (b p = 32 ∨ b p = 10) := fun q => h5 (so_5.mpr q)
      have eb : bgf b z j = p := by rw [← hr, rn_stop h5]
      have hlt := te_le (b := b) (show p < z by omega)
      have H2 : MB (up r 77 22 (p : Int)) b z := H.cong (up_nj (by decide)) (fun k => up_ne (by decide))
      have e22 : up r 77 22 (p : Int) 77 20 = (p : Int) := by rw [up_nj (by decide)]; exact h20
      rw [if_neg (by omega), h20, m_byte H (by omega), bI_some, if_pos (show p < z by omega), w32i (x := b p) (by omega) (by omega), if_neg (by omega), bd_eq, h20, e22, m_byte H2 (by omega), bI_some, if_pos (show p < z by omega), bd_eq, w32i (x := b p) (by omega) (by omega), if_neg (by omega)]
      have H3 : MB (up (up r 77 22 (p : Int)) 77 21 4) b z := H2.cong (up_nj (by decide)) (fun k => up_ne (by decide))
      have e20 : up (up r 77 22 (p : Int)) 77 21 4 77 20 = (p : Int) := by rw [up_nj (by decide)]; exact e22
      have e22' : up (up r 77 22 (p : Int)) 77 21 4 77 22 = (p : Int) := by rw [up_nj (by decide), up_same]
      have fr : NF r (up (up r 77 22 (p : Int)) 77 21 4) := fun x k h => by rw [up_o (by omega), up_o (by omega)]
      have e21 : up (up r 77 22 (p : Int)) 77 21 4 77 21 = 4 := up_same
      have i1 : ∀ lo hi : Int, r32 lo → r32 hi → (lo ≤ b p ∧ b p ≤ hi) → d_x8_in N (up (up r 77 22 (p : Int)) 77 21 4) (b p) lo hi = some (up (up r 77 22 (p : Int)) 77 21 4, 1) := fun lo hi h1 h2 h3 => by
        rw [e_in32 N _ (show r32 (b p) by unfold r32; omega) h1 h2, if_pos h3]
      have i0 : ∀ lo hi : Int, r32 lo → r32 hi → ¬ (lo ≤ b p ∧ b p ≤ hi) → d_x8_in N (up (up r 77 22 (p : Int)) 77 21 4) (b p) lo hi = some (up (up r 77 22 (p : Int)) 77 21 4, 0) := fun lo hi h1 h2 h3 => by
        rw [e_in32 N _ (show r32 (b p) by unfold r32; omega) h1 h2, if_neg h3]
      generalize up (up r 77 22 (p : Int)) 77 21 4 = s at *
      unfold TKM
      rw [eb]
      by_cases h1 : so (b p) = 1
      · have h1' := so_1.mp h1
        have et : te b z p = rn b z 1 (p + 1) := by unfold te; rw [if_pos (Or.inl h1), h1]
        have es : srt b p (te b z p) = 1 := by rw [srt_s (by omega), h1]
        rw [i1 97 122 (by unfold r32; omega) (by unfold r32; omega) h1', bI_some, if_neg (by decide)]
        refine (m_95 hlt h1' (z - p) N p s (by omega) (by omega) H3 e20 e22' (by rw [rn_step (by omega) h1]; exact et.symm)).mono (fun r' v w => ⟨⟨?_, fun q => by omega, fun _ => ⟨?_, fun _ => w.1, fun q => ?_⟩⟩, fun x k h => (w.2.2 x k (by omega)).trans (fr x k h)⟩)
        · rw [w.2.2 77 22 (by omega)]
          exact e22'
        · rw [w.2.1]
          unfold tkm
          rw [es]
          by_cases q : kd b p (te b z p - p) = -1
          · rw [if_pos q, if_pos ⟨rfl, q⟩]
          · rw [if_neg q, if_neg (fun y => q y.2)]
        · rw [w.2.1] at q
          split at q <;> omega
      · have h1' : ¬ (97 ≤ b p ∧ b p ≤ 122) := fun q => h1 (so_1.mpr q)
        rw [i0 97 122 (by unfold r32; omega) (by unfold r32; omega) h1', bI_some, if_pos (by decide)]
        have et := tkm_s (e := te b z p) h1
        by_cases h2 : so (b p) = 2
        · have h2' := so_2.mp h2
          have e2 : te b z p = rn b z 2 (p + 1) := by unfold te; rw [if_pos (Or.inr h2), h2]
          rw [i1 48 57 (by unfold r32; omega) (by unfold r32; omega) h2', bI_some, if_neg (by decide), bd_eq]
          have es : srt b p (te b z p) = (if 4 < te b z p - p then 4 else 2) := by
            unfold srt
            by_cases q : 4 < te b z p - p
            · rw [if_pos ⟨h2, q⟩, if_pos q]
            · rw [if_neg (fun y => q y.2), if_neg q, h2]
          refine (m_170 (a := p) (e := te b z p) (by omega) (z - p) N 0 (up s 77 23 0) (by omega) (by omega) (H3.cong (up_nj (by decide)) (fun k => up_ne (by decide))) (by rw [up_nj (by decide)]; exact e20) up_same (by rw [Nat.add_zero, rn_step (by omega) h2]; exact e2.symm)).mono (fun r' v w => ⟨⟨?_, fun q => by omega, fun _ => ⟨?_, fun _ => w.1, fun q => ?_⟩⟩, fun x k h => ?_⟩)
          · rw [w.2.2.2.2, up_nj (by decide)]
            exact e22'
          · rw [w.2.1, et, es]
          · rw [w.2.1] at q
            rw [w.2.2.1]
            unfold mng
            rw [es]
            by_cases y : 4 < te b z p - p
            · rw [if_pos y] at q
              omega
            · rw [if_neg y, if_neg (by decide), if_pos rfl, show min (te b z p - p) 4 = te b z p - p by omega]
          · rw [w.2.2.2.1 x k h, up_o (by omega)]
            exact fr x k h
        · have h2' : ¬ (48 ≤ b p ∧ b p ≤ 57) := fun q => h2 (so_2.mpr q)
          have es : srt b p (te b z p) = so (b p) := srt_s h2
          have e1 : te b z p = p + 1 := by unfold te; rw [if_neg (by omega)]
          rw [i0 48 57 (by unfold r32; omega) (by unfold r32; omega) h2', bI_some, if_pos (by decide), m_sgb g, bI_some]
          by_cases h3 : so (b p) = 3
          · rw [if_pos h3, if_neg (by decide), bd_eq, bd_eq, bd_eq, up_nj (show (20 : Nat) ≠ 23 by decide), up_nj (show (20 : Nat) ≠ 21 by decide), e20]
            refine One.ret ⟨⟨?_, fun q => by omega, fun _ => ⟨?_, fun _ => ?_, fun q => ?_⟩⟩, fun x k h => ?_⟩
            · rw [up_nj (by decide), up_nj (by decide), up_nj (by decide)]
              exact e22'
            · rw [up_nj (by decide), up_nj (by decide), up_same, et, es, h3]
            · rw [up_same, e1]
              omega
            · rw [up_nj (by decide), up_same]
              unfold mng
              rw [es, h3, if_neg (by decide), if_neg (by decide)]
            · rw [up_o (by omega), up_o (by omega), up_o (by omega)]
              exact fr x k h
          · rw [if_neg h3, if_pos w32_0]
            refine One.ret ⟨⟨e22', fun q => by omega, fun _ => ⟨?_, fun q => absurd e21 q, fun q => ?_⟩⟩, fr⟩
            · rw [e21, et, es]
              omega
            · rw [e21] at q
              omega
end
section
/-- the class's table of TOKENS -/
def TB (c : St) (b : Nat → Int) (z n : Nat) : Prop := (∀ i, i < n → bgf b z i < z ∧ c 12 i = (bgf b z i : Nat) ∧ c 13 i = srt b (bgf b z i) (te b z (bgf b z i)) ∧ c 14 i = mng b (bgf b z i) (te b z (bgf b z i))) ∧ bgf b z n = z ∧ n ≤ z ∧ c 12 n = (z : Nat) ∧ c 13 n = 0 ∧ c 14 n = 0 ∧ ∀ i, i < z → c 11 i = b i
theorem TB.cong {c c' : St} {b : Nat → Int} {z n : Nat} (H : TB c b z n) (e : ∀ a k, 11 ≤ a → a ≤ 14 → c' a k = c a k) : TB c' b z n := by
  have e1 := fun k => e 11 k (by omega) (by omega)
  have e2 := fun k => e 12 k (by omega) (by omega)
  have e3 := fun k => e 13 k (by omega) (by omega)
  have e4 := fun k => e 14 k (by omega) (by omega)
  unfold TB at *
  simp only [e1, e2, e3, e4]
  exact H
def gd (c r : St) (b : Nat → Int) (z j : Nat) : Prop := c 1 7 = -1 ∧ r 77 24 = 0 ∧ TKM r b z j
def bad (c r : St) : Prop := c 1 7 = r 77 25 ∧ 0 ≤ c 1 7 ∧ c 1 7 ≤ 120 ∧ r 77 24 = 1
/-- both stand at TOKEN j -/
def RD (c r : St) (b : Nat → Int) (z n j : Nat) : Prop := TB c b z n ∧ MB r b z ∧ c 1 6 = (j : Nat) ∧ j ≤ n
def FC (c c' : St) : Prop := ∀ a k, ¬ (a = 1 ∧ (k = 6 ∨ k = 7)) → c' a k = c a k
def FM (r r' : St) : Prop := ∀ x k, ¬ (x = 77 ∧ 20 ≤ k ∧ k ≤ 25) → r' x k = r x k
theorem FC.refl {c : St} : FC c c := fun _ _ _ => rfl
theorem FM.refl {r : St} : FM r r := fun _ _ _ => rfl
theorem FC.trans {a b c : St} (h : FC a b) (g : FC b c) : FC a c := fun x k z => (g x k z).trans (h x k z)
theorem FM.trans {a b c : St} (h : FM a b) (g : FM b c) : FM a c := fun x k z => (g x k z).trans (h x k z)
theorem NF.fm {r r' : St} (h : NF r r') : FM r r' := fun x k z => h x k (by omega)
theorem dv_r {b : Nat → Int} {a : Nat} : ∀ n, (∀ l, l < n → 48 ≤ b (a + l) ∧ b (a + l) ≤ 57) → 0 ≤ dv b a n ∧ dv b a n < ((10 ^ n : Nat) : Int) := by
  intro n
  induction n with
  | zero => intro _; exact ⟨show (0 : Int) ≤ 0 by decide, show (0 : Int) < ((10 ^ 0 : Nat) : Int) by decide⟩
  | succ n ih =>
    intro h
    have i := ih (fun l hl => h l (by omega))
    have g := h n (by omega)
    have e : dv b a (n + 1) = dv b a n * 10 + b (a + n) - 48 := rfl
    have p : 10 ^ (n + 1) = 10 ^ n * 10 := Nat.pow_succ ..
    rw [e, p]
    omega
theorem mng_r {b : Nat → Int} {z a : Nat} (ha : a < z) (hb : ∀ i, i < z → 0 ≤ b i ∧ b i ≤ 255) : -1 ≤ mng b a (te b z a) ∧ mng b a (te b z a) ≤ 9999 ∧ (srt b a (te b z a) = 2 → 0 ≤ mng b a (te b z a)) := by
  have t := te_le (b := b) ha
  have g := hb a ha
  unfold mng
  by_cases h1 : srt b a (te b z a) = 1
  · rw [if_pos h1, h1]
    have := fk_r (b := b) (a := a) (n := te b z a - a) 13 1
    unfold kd
    split
    · split <;> omega
    · omega
  · rw [if_neg h1]
    by_cases h2 : srt b a (te b z a) = 2
    · rw [if_pos h2]
      have h2' := h2
      unfold srt at h2'
      have hs : so (b a) = 2 ∧ ¬ 4 < te b z a - a := by
        by_cases q : so (b a) = 2 ∧ 4 < te b z a - a
        · rw [if_pos q] at h2'
          omega
        · rw [if_neg q] at h2'
          exact ⟨h2', fun y => q ⟨h2', y⟩⟩
      have d := dv_r (b := b) (a := a) (te b z a - a) (fun l hl => so_2.mp ((te_all (z := z) (Or.inr hs.1) (by omega) (by omega)).trans hs.1))
      have : (10 ^ (te b z a - a) : Nat) ≤ 10 ^ 4 := Nat.pow_le_pow_right (by decide) (by omega)
      omega
    · rw [if_neg h2]
      omega
/-- what stands at TOKEN j, on both sides -/
theorem RD.sort {c r : St} {b : Nat → Int} {z n j : Nat} (H : RD c r b z n j) (G : gd c r b z j) : 0 ≤ c 13 j ∧ c 13 j ≤ 5 ∧ -1 ≤ c 14 j ∧ c 14 j ≤ 9999 ∧ j ≤ 120 ∧ (c 13 j = 2 → 0 ≤ c 14 j) ∧ (c 13 j = 2 ↔ r 77 21 = 2) ∧ (c 13 j = 3 ↔ r 77 21 = 3) ∧ (r 77 21 = 0 ↔ c 13 j = 0) ∧ (c 13 j = 2 ∨ c 13 j = 3 → r 77 23 = c 14 j) ∧ (r 77 21 = 1 ↔ c 13 j = 1 ∧ c 14 j ≠ -1) ∧ c 12 j = r 77 22 ∧ 0 ≤ r 77 22 ∧ r 77 22 ≤ 120 ∧ 0 ≤ r 77 21 ∧ r 77 21 ≤ 5 ∧ (c 13 j ≠ 0 → j < n) := by
  obtain ⟨T, M, h6, hj⟩ := H
  obtain ⟨t1, t2, t3, t4, t5, t6, t7⟩ := T
  have hz := M.2.1
  obtain ⟨k1, k2, k3⟩ := G.2.2
  by_cases e : j = n
  · subst e
    rw [t2] at k1
    have := k2 t2
    omega
  · have t := t1 j (by omega)
    have k := k3 t.1
    have ms := mng_r t.1 (fun i hi => (M.2.2 i hi).2)
    have sr := so_r (b (bgf b z j))
    have hs : 1 ≤ srt b (bgf b z j) (te b z (bgf b z j)) ∧ srt b (bgf b z j) (te b z (bgf b z j)) ≤ 5 := by
      unfold srt
      split <;> omega
    have hm1 : srt b (bgf b z j) (te b z (bgf b z j)) = 1 → mng b (bgf b z j) (te b z (bgf b z j)) = kd b (bgf b z j) (te b z (bgf b z j) - bgf b z j) := fun q => by
      unfold mng
      rw [if_pos q]
    have hk := k.1
    have kw3 := k.2.2
    unfold tkm at hk
    rw [t.2.1, t.2.2.1, t.2.2.2, k1]
    generalize srt b (bgf b z j) (te b z (bgf b z j)) = S at *
    generalize mng b (bgf b z j) (te b z (bgf b z j)) = X at *
    generalize kd b (bgf b z j) (te b z (bgf b z j) - bgf b z j) = K at *
    have hb := t.1
    by_cases q : S = 1 ∧ K = -1
    · rw [if_pos q] at hk
      have := hm1 q.1
      refine ⟨by omega, by omega, by omega, by omega, by omega, by omega, by omega, by omega, by omega, by omega, by omega, rfl, by omega, by omega, by omega, by omega, fun _ => by omega⟩
    · rw [if_neg q] at hk
      refine ⟨by omega, by omega, by omega, by omega, by omega, by omega, by omega, by omega, by omega, fun y => kw3 (by omega), ?_, rfl, by omega, by omega, by omega, by omega, fun _ => by omega⟩
      constructor
      · intro y
        have := hm1 (by omega)
        refine ⟨by omega, fun w => q ⟨by omega, by omega⟩⟩
      · intro y
        omega
/-- one TOKEN on -/
theorem RD.adv {N : Nat} (hN : 500 ≤ N) {c r : St} {b : Nat → Int} {z n j : Nat} (H : RD c r b z n j) (G : gd c r b z j) (h0 : r 77 21 ≠ 0) (h4 : r 77 21 ≠ 4) : One (d_x8_next N r) (fun r' _ => RD (up c 1 6 ((j : Int) + 1)) r' b z n (j + 1) ∧ gd (up c 1 6 ((j : Int) + 1)) r' b z (j + 1) ∧ NF r r') := by
  have S := H.sort G
  have hz := H.2.1.2.1
  have hlt : bgf b z j < z := by
    by_cases q : bgf b z j < z
    · exact q
    · exact absurd (G.2.2.2.1 (by have := bgf_le (b := b) (z := z) j; omega)) h0
  have hjn : j < n := by
    by_cases q : j < n
    · exact q
    · have : j = n := by have := H.2.2.2; omega
      rw [this, H.1.2.1] at hlt
      exact absurd hlt (Nat.lt_irrefl _)
  have t := te_le (b := b) hlt
  have k := G.2.2.2.2 hlt
  have nx : bgf b z (j + 1) = rn b z 5 (te b z (bgf b z j)) := by
    show (if bgf b z j < z then rn b z 5 (te b z (bgf b z j)) else z) = _
    rw [if_pos hlt]
  unfold d_x8_next
  refine (m_next hN (j := j + 1) (z - te b z (bgf b z j)) N (te b z (bgf b z j)) r (by omega) (by omega) H.2.1 (k.2.1 h4) nx.symm).mono (fun r' v w => ⟨⟨H.1.cong (fun a x _ _ => up_ne (by omega)), H.2.1.nf w.2, by rw [up_same]; omega, by omega⟩, ⟨by rw [up_nj (by decide)]; exact G.1, by rw [w.2 77 24 (by omega)]; exact G.2.1, w.1⟩, w.2⟩)
/-- both miss -/
theorem RD.miss {N : Nat} {c r : St} {b : Nat → Int} {z n j : Nat} (H : RD c r b z n j) (G : gd c r b z j ∨ bad c r) : ∃ c' r' v w, d_x2_miss N c = some (c', v) ∧ d_x8_fail N r = some (r', w) ∧ RD c' r' b z n j ∧ bad c' r' ∧ FC c c' ∧ FM r r' := by
  unfold d_x2_miss d_x8_fail
  rcases G with G | G
  · have S := H.sort G
    have hj := H.2.2.1
    rw [G.1, if_pos (by decide), hj, w32i (x := (j : Int)) (by omega) (by omega), if_pos (by omega), bd_eq, Int.toNat_natCast, G.2.1, if_pos (by decide), bd_eq, bd_eq]
    refine ⟨_, _, _, _, rfl, rfl, ⟨H.1.cong (fun a k _ _ => up_ne (by omega)), H.2.1.cong (by rw [up_nj (by decide), up_nj (by decide)]) (fun k => by rw [up_ne (by decide), up_ne (by decide)]), by rw [up_nj (by decide)]; exact hj, H.2.2.2⟩, ⟨?_, ?_, ?_, ?_⟩, fun a k h => up_o (by omega), fun x k h => by rw [up_o (by omega), up_o (by omega)]⟩
    · rw [up_same, up_same, up_nj (by decide)]
      omega
    · rw [up_same]
      omega
    · rw [up_same]
      omega
    · rw [up_nj (by decide), up_same]
  · rw [w32i (x := c 1 7) (by have := G.2; omega) (by have := G.2; omega), if_neg (by have := G.2; omega), G.2.2.2, if_neg (by decide)]
    exact ⟨c, r, 0, 0, rfl, rfl, H, G, FC.refl, FM.refl⟩
end
