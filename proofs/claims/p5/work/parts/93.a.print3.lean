theorem laC_at {c : St} {n k : Nat} {L : List Int} (h : n ≤ k ∧ k < n + L.length) : laC c n L 16 k = L.getD (k - n) 0 := by
  unfold laC
  rw [if_neg (by omega), if_pos ⟨rfl, h⟩]
theorem laM_at {c : St} {n k : Nat} {L : List Int} (h : n ≤ k ∧ k < n + L.length) : laM c n L 102 k = L.getD (k - n) 0 := by
  unfold laM
  rw [if_neg (by omega), if_pos ⟨rfl, h⟩]
/-- the TOKENS of a stream's first parts -/
def tps (T : St) (s : Nat) : Nat → List (List Int)
  | 0 => []
  | i + 1 => tps T s i ++ tp T (24 * s + i)
theorem sm_le {f : Nat → Int} : ∀ (k i : Nat), (∀ j, j < i + k → 0 ≤ f j) → sm f i ≤ sm f (i + k) := by
  intro k
  induction k with
  | zero => intro i _; exact Int.le_refl _
  | succ k ih =>
    intro i h
    have a := ih i (fun j hj => h j (by omega))
    have b := h (i + k) (by omega)
    have e : sm f (i + (k + 1)) = sm f (i + k) + f (i + k) := rfl
    rw [e]
    omega
theorem tk_pos {T : St} {p : Nat} (w : WFp T p) : 1 ≤ tk T p ∧ 24 * T 24 p ≤ 12 * tk T p := by
  have w5 := w.2.2.2.2.1
  have w6 := w.2.2.2.2.2.1
  unfold tk
  by_cases e : T 19 p = 2
  · have := w5 e
    rw [if_neg (by omega), if_neg (by omega), if_pos e]
    omega
  · have := w6 e
    split
    · omega
    · split
      · omega
      · omega
theorem tp_wide {T : St} {p : Nat} (w : WFp T p) (n : Nat) : (jt n (tp T p)).length ≤ 250 := by
  have w1 := w.1
  have w5 := w.2.2.2.2.1
  have w6 := w.2.2.2.2.2.1
  have w24 : 0 ≤ T 24 p ∧ T 24 p ≤ 8 := by
    by_cases e : T 19 p = 2
    · have := w5 e; omega
    · have := w6 e; omega
  rw [tp_eq w]
  have q : ∀ A B : List (List Int), ∃ m, (jt n (A ++ B)).length = (jt n A).length + (jt m B).length := fun A B => ⟨_, by rw [jt_app, List.length_append]⟩
  have hk := (kw_len (T := T) (p := p) (by omega) n).1
  obtain ⟨m4, q4⟩ := q ([kw T p] ++ om T p ++ nm T p ++ sc T p) (lt T p (T 24 p).toNat)
  obtain ⟨m3, q3⟩ := q ([kw T p] ++ om T p ++ nm T p) (sc T p)
  obtain ⟨m2, q2⟩ := q ([kw T p] ++ om T p) (nm T p)
  obtain ⟨m1, q1⟩ := q ([kw T p]) (om T p)
  have ho := om_len (T := T) (p := p) m1
  have hq := nm_len (T := T) (p := p) m2
  have hz := sc_len (T := T) (p := p) m3
  have hl := lt_len (T := T) (p := p) (T 24 p).toNat m4
  rw [q4, q3, q2, q1]
  omega
/-- a stream's bytes fit -/
theorem fits {T : St} {s : Nat} (hw : ∀ i : Nat, (i : Int) < T 18 s → WFp T (24 * s + i)) (P : PW T s) : (∀ i : Nat, (i : Int) < T 18 s → (jt 0 (tps T s i)).length + 24 * (T 24 (24 * s + i)).toNat + 100 < 1024) ∧ (jt 0 (tps T s (T 18 s).toNat)).length ≤ 1000 := by
  rcases P with ⟨P1, P2⟩ | ⟨P1, P2⟩
  · have hb : ∀ i : Nat, (i : Int) ≤ T 18 s → ((jt 0 (tps T s i)).length : Int) ≤ 7 * sm (fun k => tk T (24 * s + k)) i := by
      intro i
      induction i with
      | zero => intro _; exact Int.le_refl 0
      | succ i ih =>
        intro hi
        have a := ih (by omega)
        have b := tp_len (hw i (by omega)) (P2 i (by omega)) (0 + (jt 0 (tps T s i)).length)
        have e : sm (fun k => tk T (24 * s + k)) (i + 1) = sm (fun k => tk T (24 * s + k)) i + tk T (24 * s + i) := rfl
        show ((jt 0 (tps T s i ++ tp T (24 * s + i))).length : Int) ≤ _
        rw [jt_app, List.length_append, e]
        omega
    have ht : ∀ j : Nat, j < (T 18 s).toNat → 0 ≤ (fun k => tk T (24 * s + k)) j := fun j hj => by
      have := (tk_pos (hw j (by omega))).1
      show 0 ≤ tk T (24 * s + j)
      omega
    refine ⟨fun i hi => ?_, ?_⟩
    · have a := hb i (by omega)
      have b := tk_pos (hw i hi)
      have m := sm_le (f := fun k => tk T (24 * s + k)) ((T 18 s).toNat - (i + 1)) (i + 1) (fun j hj => ht j (by omega))
      rw [show i + 1 + ((T 18 s).toNat - (i + 1)) = (T 18 s).toNat by omega] at m
      have e : sm (fun k => tk T (24 * s + k)) (i + 1) = sm (fun k => tk T (24 * s + k)) i + tk T (24 * s + i) := rfl
      have w5 := (hw i hi).2.2.2.2.1
      have w6 := (hw i hi).2.2.2.2.2.1
      have w24 : 0 ≤ T 24 (24 * s + i) ∧ T 24 (24 * s + i) ≤ 8 := by
        by_cases e : T 19 (24 * s + i) = 2
        · have := w5 e; omega
        · have := w6 e; omega
      rw [e] at m
      omega
    · by_cases z : 0 ≤ T 18 s
      · have a := hb (T 18 s).toNat (by omega)
        omega
      · rw [show (T 18 s).toNat = 0 by omega]
        exact Nat.zero_le _
  · have w := hw 0 (by omega)
    have w5 := w.2.2.2.2.1 P2
    refine ⟨fun i hi => ?_, ?_⟩
    · have : i = 0 := by omega
      subst this
      show 0 + 24 * (T 24 (24 * s + 0)).toNat + 100 < 1024
      omega
    · rw [show (T 18 s).toNat = 1 by omega]
      show (jt 0 ([] ++ tp T (24 * s + 0))).length ≤ 1000
      have := tp_wide w 0
      rw [List.nil_append]
      omega
/-- the class prints a stream -/
theorem e_wst {N : Nat} (hN : 5000 ≤ N) {T c : St} {s : Nat} (hs : s < 8) (C : ct c T) (h18 : 0 ≤ T 18 s ∧ T 18 s ≤ 24) (hw : ∀ i : Nat, (i : Int) < T 18 s → WFp T (24 * s + i)) (P : PW T s) : d_x1_writeStream N c (s : Int) = some (laC (up c 15 1 0) 0 (jt 0 (tps T s (T 18 s).toNat)), 0) := by
  have ft := (fits hw P).1
  have C0 : PC T (up c 15 1 0) 0 := ⟨C.up (by omega), up_same⟩
  have loop : ∀ (k m i : Nat) (x3 x4 : Int), x3 = (s : Int) * 24 → x4 = ((24 * s + i : Nat) : Int) → i + k = (T 18 s).toNat → k < m → d_x1_writeStream_13L N m (laC (up c 15 1 0) 0 (jt 0 (tps T s i))) (s : Int) x3 x4 = some (laC (up c 15 1 0) 0 (jt 0 (tps T s (T 18 s).toNat)), 0) := by
    intro k
    induction k with
    | zero =>
      intro m i x3 x4 h3 h4 hi hm
      obtain ⟨m, rfl⟩ : ∃ m', m = m' + 1 := ⟨m - 1, by omega⟩
      have : i = (T 18 s).toNat := by omega
      subst this
      have h2 := C0.la (L := jt 0 (tps T s (T 18 s).toNat))
      show d_x1_writeStream_13 N (d_x1_writeStream_13L N m) _ (s : Int) x3 x4 = _
      unfold d_x1_writeStream_13
      rw [w32i (x := (s : Int)) (by omega) (by omega), if_pos (by omega), Int.toNat_natCast, h2.1 18 s (by decide) (by decide), w32i (x := x4) (by omega) (by omega), w32i (x := x3 + T 18 s) (by omega) (by omega), if_neg (by omega)]
    | succ k ih =>
      intro m i x3 x4 h3 h4 hi hm
      obtain ⟨m, rfl⟩ : ∃ m', m = m' + 1 := ⟨m - 1, by omega⟩
      have h2 := C0.la (L := jt 0 (tps T s i))
      have f := ft i (by omega)
      have I := ih m (i + 1) x3 (x4 + 1) h3 (by omega) (by omega) (by omega)
      show d_x1_writeStream_13 N (d_x1_writeStream_13L N m) _ (s : Int) x3 x4 = _
      unfold d_x1_writeStream_13
      rw [w32i (x := (s : Int)) (by omega) (by omega), if_pos (by omega), Int.toNat_natCast, h2.1 18 s (by decide) (by decide), w32i (x := x4) (by omega) (by omega), w32i (x := x3 + T 18 s) (by omega) (by omega), if_pos (by omega)]
      have e := e_wpart hN (p := 24 * s + i) (by omega) (hw i (by omega)) h2 (by omega)
      rw [← h4] at e
      rw [e, bV_some, bd_eq, laC_app, ← jt_app]
      exact I
  unfold d_x1_writeStream
  have l := loop (T 18 s).toNat N 0 ((s : Int) * 24) ((s : Int) * 24) rfl (by omega) (by omega) (by omega)
  have e0 : jt 0 (tps T s 0) = [] := rfl
  rw [e0, laC_nil C0.2] at l
  rw [bd_eq, bd_eq]
  exact l
/-- the model prints a stream -/
theorem m_wst {N : Nat} (hN : 5000 ≤ N) {T r : St} {s : Nat} (hs : s < 8) (R : rt r T) (h18 : 0 ≤ T 18 s ∧ T 18 s ≤ 24) (h78 : T 78 s = T 18 s) (hw : ∀ i : Nat, (i : Int) < T 18 s → WFp T (24 * s + i)) (P : PW T s) : d_x8_prints N r (s : Int) = some (laM (up r 77 35 0) 0 (jt 0 (tps T s (T 18 s).toNat)), 0) := by
  have ft := (fits hw P).1
  have C0 : PM T (up r 77 35 0) 0 := ⟨R.up (by omega), up_same⟩
  have loop : ∀ (k m i : Nat) (x4 : Int), x4 = (i : Int) → i + k = (T 18 s).toNat → k < m → d_x8_prints_7L N m (laM (up r 77 35 0) 0 (jt 0 (tps T s i))) (s : Int) x4 = some (laM (up r 77 35 0) 0 (jt 0 (tps T s (T 18 s).toNat)), 0) := by
    intro k
    induction k with
    | zero =>
      intro m i x4 h4 hi hm
      obtain ⟨m, rfl⟩ : ∃ m', m = m' + 1 := ⟨m - 1, by omega⟩
      have : i = (T 18 s).toNat := by omega
      subst this
      have h2 := C0.la (L := jt 0 (tps T s (T 18 s).toNat))
      show d_x8_prints_7 N (d_x8_prints_7L N m) _ (s : Int) x4 = _
      unfold d_x8_prints_7
      rw [w32i (x := (s : Int)) (by omega) (by omega), if_pos (by omega), Int.toNat_natCast, h2.1 78 s (by decide) (by decide), h78, w32i (x := x4) (by omega) (by omega), w32i (x := T 18 s) (by omega) (by omega), if_neg (by omega)]
    | succ k ih =>
      intro m i x4 h4 hi hm
      obtain ⟨m, rfl⟩ : ∃ m', m = m' + 1 := ⟨m - 1, by omega⟩
      have h2 := C0.la (L := jt 0 (tps T s i))
      have f := ft i (by omega)
      have I := ih m (i + 1) (x4 + 1) (by omega) (by omega) (by omega)
      show d_x8_prints_7 N (d_x8_prints_7L N m) _ (s : Int) x4 = _
      rw [h4] at I ⊢
      rw [m_part hN hs (by omega) (hw i (by omega)) (by omega) h2 (by omega), laM_app, ← jt_app]
      exact I
  unfold d_x8_prints
  have l := loop (T 18 s).toNat N 0 0 rfl (by omega) (by omega)
  have e0 : jt 0 (tps T s 0) = [] := rfl
  rw [e0, laM_nil C0.2] at l
  rw [bd_eq]
  exact l
theorem QG.pr {c r : St} {L : List Int} (H : RG c r) (v : Int) : QG c r (laC (up c 15 1 0) 0 L) (laM (up r 77 35 0) 0 L) v := by
  have e : ∀ a k, ¬ (a = 15 ∨ a = 16) → laC (up c 15 1 0) 0 L a k = c a k := fun a k h => by rw [laC_o (by omega) (by omega), up_ne (by omega)]
  have f : ∀ a k, ¬ (a = 77 ∨ a = 102) → laM (up r 77 35 0) 0 L a k = r a k := fun a k h => by rw [laM_o (by omega) (by omega), up_ne (by omega)]
  have f7 : ∀ k, k ≠ 35 → laM (up r 77 35 0) 0 L 77 k = r 77 k := fun k h => by rw [laM_o (by omega) (by omega), up_nj (by omega)]
  exact ⟨⟨H.1.cong (e _ _ (by omega)) (fun k => e _ _ (by omega)) (f7 _ (by omega)) (fun k => f _ _ (by omega)), H.2.1.cong (fun a k _ _ => e a k (by omega)) (fun a k _ _ => f a k (by omega)), ⟨H.2.2.1.1.cong (fun a k _ _ => e a k (by omega)), H.2.2.1.2.cong (fun a k _ _ => e a k (by omega))⟩, H.2.2.2.1.cong (fun a k _ _ => e a k (by omega)) (e _ _ (by omega)) (e _ _ (by omega)) (fun a k _ _ => f a k (by omega)) (f7 _ (by omega)) (f7 _ (by omega)), H.2.2.2.2.1.cong (fun a k _ _ => e a k (by omega)) (fun a k _ _ => f a k (by omega)), H.2.2.2.2.2.1.cong (e _ _ (by omega)) (f7 _ (by omega)), H.2.2.2.2.2.2.cong (e _ _ (by omega)) (f7 _ (by omega))⟩, fun a k _ => e a k (by omega), fun a k _ => f a k (by omega)⟩
theorem r_print {N : Nat} (hN : 5000 ≤ N) {c r : St} {a0 a1 : Int} (h0 : r32 a0) (h1 : r32 a1) (H : RG c r) : Two (d_x7_print N c a0 a1) (d_x8_print N r a0 a1) (QG c r) := by
  have hp := H.p18
  unfold d_x7_print d_x8_print
  by_cases hs : 0 ≤ a0 ∧ a0 < 8
  · refine Two.cL (S7t h0 hs) (Two.cR (S8t h0 hs) (Two.eL (by decide) (Two.eR (by decide) ?_)))
    obtain ⟨s, rfl⟩ : ∃ s : Nat, a0 = s := ⟨a0.toNat, by omega⟩
    have hps := hp s (by omega)
    refine Two.cL (Em (by omega) hps.1) ?_
    rw [w32i (x := (s : Int)) (by omega) (by omega), if_pos (show 0 ≤ (s : Int) ∧ (s : Int) < ((8 : Nat) : Int) by omega), Int.toNat_natCast, hps.2, w32i (x := c 18 s) (by omega) (by omega)]
    by_cases he : c 18 s = 0
    · rw [if_pos he, if_pos he, if_neg (by decide)]
      exact Two.ret rfl (QG.refl H _)
    · rw [if_neg he, if_neg he, if_pos (by decide)]
      have W := H.2.1.1.1
      have t18 : tx c r 18 s = c 18 s := (tx_ct c r 18 s (by omega) (by omega)).symm
      have w8 := W.1 s (by omega)
      have hw : ∀ i : Nat, (i : Int) < tx c r 18 s → WFp (tx c r) (24 * s + i) := fun i hi => W.2 _ ⟨by omega, by rw [show (24 * s + i) / 24 = s by omega, show (24 * s + i) % 24 = i by omega]; exact hi⟩
      have P := H.2.1.1.2 s (by omega)
      have ft := (fits hw P).2
      refine Two.vL (e_wst hN (by omega) (tx_ct c r) (by omega) hw P) (Two.vR (m_wst hN (by omega) (tx_rt c r) (by omega) (by omega) hw P) ?_)
      generalize jt 0 (tps (tx c r) s (tx c r 18 s).toNat) = L at ft ⊢
      have q := fun v => QG.pr (L := L) H v
      have n1 : laC (up c 15 1 0) 0 L 15 1 = ((L.length : Nat) : Int) := by rw [laC_n, Nat.zero_add]
      have n2 : laM (up r 77 35 0) 0 L 77 35 = ((L.length : Nat) : Int) := by rw [laM_n, Nat.zero_add]
      rw [n1, n2, w32r h1]
      by_cases ha : a1 = -1
      · rw [if_pos ha, if_pos ha]
        exact Two.ret rfl (q _)
      · rw [if_neg ha, if_neg ha, w32i (x := (L.length : Int) - 1) (by omega) (by omega), w32i (x := (L.length : Int)) (by omega) (by omega), e_in32 N _ h1 (by unfold r32; omega) (by unfold r32; omega), bI_some]
        by_cases hb : 0 ≤ a1 ∧ a1 ≤ (L.length : Int) - 1
        · rw [if_pos hb, if_neg (by omega), if_pos (by omega), if_pos (by omega), if_neg (by decide), if_pos (by omega)]
          refine Two.ret ?_ (q _)
          rw [laC_at (by omega), laM_at (by omega)]
        · rw [if_neg hb, if_pos w32_0]
          by_cases hc : a1 < 0
          · rw [if_pos hc]
            exact Two.ret rfl (q _)
          · rw [if_neg hc, if_neg (by omega)]
            exact Two.ret rfl (q _)
  · refine Two.cL (S7f h0 hs) (Two.cR (S8f h0 hs) (Two.iL (by decide) (Two.iR (by decide) ?_)))
    exact Two.ret rfl (QG.refl H _)
