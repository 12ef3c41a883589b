def jt : Nat → List (List Int) → List Int
  | _, [] => []
  | n, w :: ws => (bk n ++ w) ++ jt (n + (bk n ++ w).length) ws
theorem jt_app : ∀ (a b : List (List Int)) (n : Nat), jt n (a ++ b) = jt n a ++ jt (n + (jt n a).length) b := by
  intro a
  induction a with
  | nil => intro b n; rfl
  | cons w ws ih =>
    intro b n
    show (bk n ++ w) ++ jt (n + (bk n ++ w).length) (ws ++ b) = (bk n ++ w ++ jt (n + (bk n ++ w).length) ws) ++ jt (n + (bk n ++ w ++ jt (n + (bk n ++ w).length) ws).length) b
    rw [ih, List.length_append (as := bk n ++ w), ← Nat.add_assoc]
    simp only [List.append_assoc]
theorem jt_1 (n : Nat) (w : List Int) : jt n [w] = bk n ++ w := by
  show (bk n ++ w) ++ [] = _
  rw [List.append_nil]
theorem jt_2 (n : Nat) (w v : List Int) : jt n [w, v] = (bk n ++ w) ++ (bk (n + (bk n ++ w).length) ++ v) := by
  show (bk n ++ w) ++ ((bk (n + (bk n ++ w).length) ++ v) ++ []) = _
  rw [List.append_nil]
theorem e_ws {N n : Nat} {c : St} {b : Int} (h : c 15 1 = n) (hn : n + 2 < 1024) : d_x1_writeSign N c b = some (laC c n (jt n [[b]]), 0) := by
  have hb := bk_len n
  unfold d_x1_writeSign
  rw [e_wbl h (by omega), bV_some, e_wb laC_n (by omega), bV_some, laC_app, jt_1]
/-- a text of the class: its letters -/
def Txt (N e : Nat) (L : List Int) : Prop := e ≠ 1000 ∧ (e % 2 = 1 ∧ e / 2 < 25) ∧ (∀ s, d_j0_length_8abf5 N s e = some (s, (L.length : Int))) ∧ ∀ (s : St) (i : Nat), i < L.length → d_j0_charAt_5068e N s e (i : Int) = some (s, L.getD i 0)
theorem e_ww {N n e : Nat} (hN : 100 ≤ N) {c : St} {L : List Int} (t : Txt N e L) (hL : L.length ≤ 10) (h : c 15 1 = n) (hn : n + 20 < 1024) : d_x1_writeWord N c e = some (laC c n (jt n [L]), 0) := by
  have hb := bk_len n
  obtain ⟨t1, t2, t3, t4⟩ := t
  unfold d_x1_writeWord
  rw [e_wbl h (by omega), bV_some, jt_1]
  have loop : ∀ (k m i : Nat), i + k = L.length → k < m → d_x1_writeWord_6L N m (laC c n (bk n ++ L.take i)) e (i : Int) = some (laC c n (bk n ++ L), 0) := by
    intro k
    induction k with
    | zero =>
      intro m i hi hm
      obtain ⟨m, rfl⟩ : ∃ m', m = m' + 1 := ⟨m - 1, by omega⟩
      have : i = L.length := by omega
      subst this
      show d_x1_writeWord_6 N (d_x1_writeWord_6L N m) _ e _ = _
      unfold d_x1_writeWord_6
      rw [if_neg t1, if_pos t2, t3, bI_some, if_neg (Int.lt_irrefl _), List.take_length]
    | succ k ih =>
      intro m i hi hm
      obtain ⟨m, rfl⟩ : ∃ m', m = m' + 1 := ⟨m - 1, by omega⟩
      show d_x1_writeWord_6 N (d_x1_writeWord_6L N m) _ e _ = _
      unfold d_x1_writeWord_6
      have hl : (bk n ++ L.take i).length = (bk n).length + i := by rw [List.length_append, List.length_take]; omega
      have ht : L.take i ++ [L.getD i 0] = L.take (i + 1) := by
        rw [List.take_succ, List.getD_eq_getElem?_getD]
        cases hh : L[i]? with
        | none => rw [List.getElem?_eq_none_iff] at hh; omega
        | some v => rfl
      rw [if_neg t1, if_pos t2, t3, bI_some, w32i (x := (i : Int)) (by omega) (by omega), w32i (x := (L.length : Int)) (by omega) (by omega), if_pos (by omega), if_neg t1, if_pos t2, t4 _ i (by omega), bI_some, e_wb laC_n (by omega), bV_some, bd_eq, laC_app, List.append_assoc, ht]
      exact ih m (i + 1) (by omega) (by omega)
  have l := loop L.length N 0 (by omega) (by omega)
  rw [List.take_zero, List.append_nil] at l
  exact l
/-- letters that aren't 0 -/
def nz (x : Int) : List Int := if x = 0 then [] else [x]
theorem nz_len (x : Int) : (nz x).length ≤ 1 := by
  unfold nz
  split <;> simp
theorem e_wd {N n : Nat} {r : St} {a b c d e : Int} (ha : r32 a ∧ a ≠ 0) (hb : r32 b) (hc : r32 c) (hd : r32 d) (he : r32 e) (h : r 77 35 = n) (hn : n + 20 < 4000) : d_x8_word N r a b c d e = some (laM r n (jt n [nz a ++ nz b ++ nz c ++ nz d ++ nz e]), 0) := by
  have hk := bk_len n
  have put : ∀ (m : Nat) (s : St) (x : Int), s 77 35 = m → m < 4000 → r32 x → ∀ K : St → Option Rs, (if w32 x = 0 then K s else bV (d_x8_puts N s x) fun s1 => K s1) = K (laM s m (nz x)) := by
    intro m s x hs hm hx K
    rw [w32r hx]
    unfold nz
    by_cases e : x = 0
    · rw [if_pos e, if_pos e, laM_nil hs]
    · rw [if_neg e, if_neg e, e_pb hs (by omega), bV_some]
  have l1 := nz_len b
  have l2 := nz_len c
  have l3 := nz_len d
  have l4 := nz_len e
  have na : nz a = [a] := by unfold nz; rw [if_neg ha.2]
  unfold d_x8_word
  rw [e_gap h (by omega), bV_some, e_pb laM_n (by omega), bV_some, laM_app]
  have p1 := put (n + (bk n ++ [a]).length) (laM r n (bk n ++ [a])) b laM_n (by rw [List.length_append]; simp; omega) hb (fun s => d_x8_word_18 N s c d e)
  rw [p1, laM_app]
  unfold d_x8_word_18
  have p2 := put (n + (bk n ++ [a] ++ nz b).length) (laM r n (bk n ++ [a] ++ nz b)) c laM_n (by rw [List.length_append, List.length_append]; simp; omega) hc (fun s => d_x8_word_27 N s d e)
  rw [p2, laM_app]
  unfold d_x8_word_27
  have p3 := put (n + (bk n ++ [a] ++ nz b ++ nz c).length) (laM r n (bk n ++ [a] ++ nz b ++ nz c)) d laM_n (by rw [List.length_append, List.length_append, List.length_append]; simp; omega) hd (fun s => d_x8_word_38 N s e)
  rw [p3, laM_app]
  unfold d_x8_word_38
  have p4 := put (n + (bk n ++ [a] ++ nz b ++ nz c ++ nz d).length) (laM r n (bk n ++ [a] ++ nz b ++ nz c ++ nz d)) e laM_n (by rw [List.length_append, List.length_append, List.length_append, List.length_append]; simp; omega) he (fun s => some (s, 0))
  rw [p4, laM_app, jt_1, na]
  simp only [List.append_assoc]
/-- the TOKENS of a number -/
def nt (v : Int) : List (List Int) := if w64 v < 0 then [[45], dgt v] else [dgt v]
theorem e_wnum {N n : Nat} (hN : 5000 ≤ N) {c : St} {v : Int} (h : c 15 1 = n) (hn : n + 40 < 1024) : d_x1_writeNum N c v = some (laC c n (jt n (nt v)), 0) := by
  have hb := bk_len n
  unfold d_x1_writeNum nt
  rw [e_wbl h (by omega), bV_some]
  by_cases e : w64 v < 0
  · have hl : (bk n ++ [45]).length ≤ 2 := by rw [List.length_append]; simp; omega
    have hb2 := bk_len (n + (bk n ++ [45]).length)
    rw [if_pos e, if_pos e, e_wb laC_n (by omega), bV_some, laC_app, e_wbl laC_n (by omega), bV_some, laC_app, e_wn20 hN laC_n (by rw [List.length_append]; omega), laC_app]
    rw [jt_2]
    simp only [List.append_assoc]
  · rw [if_neg e, if_neg e, e_wn20 hN laC_n (by omega), laC_app, jt_1]
theorem e_mnum {N n : Nat} (hN : 5000 ≤ N) {r : St} {v : Int} (h : r 77 35 = n) (hn : n + 40 < 4000) : d_x8_digits N r v = some (laM r n (jt n (nt v)), 0) := by
  have hb := bk_len n
  unfold d_x8_digits nt
  by_cases e : w64 v < 0
  · have hl : (bk n ++ [45]).length ≤ 2 := by rw [List.length_append]; simp; omega
    rw [if_pos e, if_pos e, e_gap h (by omega), bV_some, e_pb laM_n (by omega), bV_some, laM_app, e_dg16 hN laM_n (by omega), laM_app]
    rw [jt_2]
  · rw [if_neg e, if_neg e, e_dg16 hN h (by omega), jt_1]
theorem nt_len (v : Int) (n : Nat) : (jt n (nt v)).length ≤ 22 := by
  obtain ⟨a, L, e1, e2, e3, e4, e5, e6, e7, e8⟩ := dgt_spec v
  unfold nt
  by_cases e : w64 v < 0
  · rw [if_pos e]
    have h1 := bk_len n
    have h2 := bk_len (n + ((bk n).length + 1))
    rw [jt_2, List.length_append, List.length_append, List.length_append, e8, show ([45] : List Int).length = 1 from rfl]
    omega
  · rw [if_neg e, jt_1, List.length_append, e8]
    have h1 := bk_len n
    omega
theorem nt_len4 {v : Int} (hv : -9999 ≤ v ∧ v ≤ 9999) (n : Nat) : (jt n (nt v)).length ≤ 7 := by
  obtain ⟨a, L, e1, e2, e3, e4, e5, e6, e7, e8⟩ := dgt_spec v
  have hw : w64 v = v := w64i (by omega) (by omega)
  have ha : a ≤ 9999 := by rw [hw] at e1; omega
  have hL : L ≤ 4 := by
    by_cases z : L ≤ 4
    · exact z
    · have h5 := e5 (by omega)
      have : 10 ^ 4 ≤ 10 ^ (L - 1) := Nat.pow_le_pow_right (by decide) (by omega)
      omega
  unfold nt
  by_cases e : w64 v < 0
  · rw [if_pos e]
    have h1 := bk_len n
    have h2 := bk_len (n + ((bk n).length + 1))
    rw [jt_2, List.length_append, List.length_append, List.length_append, e8, show ([45] : List Int).length = 1 from rfl]
    omega
  · rw [if_neg e, jt_1, List.length_append, e8]
    have h1 := bk_len n
    omega
/-- the letters of the class's texts -/
def tl (i : Nat) : List Int := (xbyt.getD i []).map (fun x => x.toInt)
theorem chr_ok : ∀ x : Fin 128, c16 (and32 ((x.val : Nat) : Int) 255) = ((x.val : Nat) : Int) ∧ narrow .char (vi ((x.val : Nat) : Int)) = vi ((x.val : Nat) : Int) := by decide +kernel
theorem tl_ok : ∀ i : Fin 25, (tl i.val).length ≤ 9 ∧ (tl i.val).all (fun x => decide (0 ≤ x ∧ x < 128)) = true := by decide +kernel
theorem shr_0 : ∀ n : Fin 10, shr32 ((n.val : Nat) : Int) 0 = ((n.val : Nat) : Int) := by decide +kernel
theorem gd_map (l : List Int32) (j : Nat) : (l.getD j 0).toInt = (l.map (fun x => x.toInt)).getD j 0 := by
  rw [List.getD_eq_getElem?_getD, List.getD_eq_getElem?_getD, List.getElem?_map]
  cases l[j]? with
  | none => rfl
  | some v => rfl
theorem tx_all {N i : Nat} (hi : i < 25) : Txt N (2 * i + 1) (tl i) := by
  have h1 : ¬ (2 * i + 1 = 1000) := by omega
  have h2 : (2 * i + 1) % 2 = 1 ∧ (2 * i + 1) / 2 < 25 := by omega
  have h3 : (2 * i + 1) / 2 = i := by omega
  have h4 : bOk (2 * i + 2) := by unfold bOk; omega
  have h5 : bLen (2 * i + 2) = (tl i).length := by
    unfold bLen tl
    rw [show (2 * i + 2) / 2 - 1 = i by omega, List.length_map]
  have ok : (tl i).length ≤ 9 ∧ (tl i).all (fun x => decide (0 ≤ x ∧ x < 128)) = true := tl_ok ⟨i, hi⟩
  have h2' : (2 * i + 1) % 2 = 1 ∧ i < 25 := by omega
  refine ⟨h1, h2, fun s => ?_, fun s j hj => ?_⟩
  · unfold d_j0_length_8abf5 d_j0_coder_7d493
    have sh := shr_0 ⟨(tl i).length, by have := ok.1; show (tl i).length < 10; omega⟩
    rw [h3, if_neg h1, if_pos h2', if_pos h4, if_neg h1, if_pos h2', if_neg h1, if_pos h2', bI_some, h5]
    exact congrArg (fun z => some (s, z)) sh
  · have hm : (tl i).getD j 0 ∈ tl i := by
      rw [List.getD_eq_getElem?_getD, List.getElem?_eq_getElem hj]
      exact List.getElem_mem hj
    have hr := List.all_eq_true.mp ok.2 _ hm
    have hr := of_decide_eq_true hr
    have hb : bAt (2 * i + 2) j = (tl i).getD j 0 := by
      unfold bAt tl
      rw [show (2 * i + 2) / 2 - 1 = i by omega]
      exact gd_map _ j
    have ck := chr_ok ⟨((tl i).getD j 0).toNat, by omega⟩
    have e0 : ((((tl i).getD j 0).toNat : Nat) : Int) = (tl i).getD j 0 := by omega
    have ck1 : c16 (and32 ((tl i).getD j 0) 255) = (tl i).getD j 0 := by rw [← e0]; exact ck.1
    have ck2 : narrow .char (vi ((tl i).getD j 0)) = vi ((tl i).getD j 0) := by rw [← e0]; exact ck.2
    have hl := ok.1
    have hl : (tl i).length ≤ 9 := hl
    unfold d_j0_charAt_5068e d_j0_isLatin1_aae02 d_j1_charAt_3b067 d_j0_checkIndex_df160 d_j3_checkIndex_8e157
    rw [h3, if_neg h1, if_pos h2', if_neg h1, if_pos h2', bI_some, w32_1, if_neg (show ¬ (1 : Int) = 0 by decide), if_neg h1, if_pos h2', if_neg (show ¬ 2 * i + 2 = 1000 by omega), if_pos h4, h5, w32i (x := (j : Int)) (by omega) (by omega), w32i (x := ((tl i).length : Int)) (by omega) (by omega), if_neg (by omega), if_pos (by omega), bI_some, bV_some, if_neg (show ¬ 2 * i + 2 = 1000 by omega), if_pos ⟨h4, by omega, by omega⟩, Int.toNat_natCast, hb, ck1, if_pos ck2, bI_some, if_pos ck2]
