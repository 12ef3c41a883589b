theorem p_none {N x : Nat} (hN : 500 ≤ N) (hx : x < 24) {g : St → Option Rs} {c r : St} {b : Nat → Int} {z n j : Nat} {k v : Int} (hk : k = 0 ∨ k = 7 ∨ k = 11) (hv : 0 ≤ v ∧ v ≤ 7) (H : RD c r b z n j) (G : gd c r b z j) (I : INI c r x k v) : ∃ c' r', d_x2_readPart_97L N N c (x : Int) (2 * 14 + 1) 0 = some (c', 0) ∧ d_x8_row_149 N g r (x : Int) k 0 (x : Int) = d_x8_row_292 N g r' (x : Int) k ∧ PQ x k b z n j c r c' r' := by
  obtain ⟨i4, i5, i6, i7, i9, m95, m98, m100⟩ := I
  refine ⟨c, up r 96 x 0, e_97_0 (by omega) (tx_all (i := 14) (by decide)), ?_, j, Nat.le_refl _, H.upr (by omega), FCr.refl, FMr.refl.up (by omega), up_ne (by decide), i4, Or.inl ⟨G.upr (by omega), ?_, ?_⟩⟩
  · rw [q149n hx (by omega) (Or.inr (by omega)), q193n (by omega) (Or.inr (by omega)), q253n (by omega) (Or.inr (by omega)), q275n (by omega) (Or.inr (by omega))]
  · unfold tkc
    rw [if_pos hk]
    omega
  · refine PK.mk (k := k) (o := 0) (v := v) (m := 0) i4 i5 i6 i9 ?_ up_same ?_ ?_ (by unfold KO; omega) (fun e => by omega) (fun e => by omega)
    · rw [up_ne (by decide)]; exact m95
    · rw [up_ne (by decide)]; exact m98
    · rw [up_ne (by decide)]; exact m100
theorem p_n {N x : Nat} (hN : 500 ≤ N) (hx : x < 24) {g : St → Option Rs} {c r : St} {b : Nat → Int} {z n j : Nat} (H : RD c r b z n j) (G : gd c r b z j) (I : INI c r x 12 0) : ∃ c' r', d_x2_readPart_97L N N c (x : Int) (2 * 21 + 1) 0 = some (c', 0) ∧ d_x8_row_149 N g r (x : Int) 12 0 (x : Int) = d_x8_row_292 N g r' (x : Int) 12 ∧ PQ x 12 b z n j c r c' r' := by
  obtain ⟨i4, i5, i6, i7, i9, m95, m98, m100⟩ := I
  obtain ⟨c1, r1, v, w, f1, f2, j1, f3, f4, f5', f6', f7⟩ := r_num hN (H.upr (a := 96) (x := x) (v := 0) (by omega)) (G.upr (by omega))
  have f5 : ∀ a k, ¬ (a = 1 ∧ (k = 6 ∨ k = 7)) → c1 a k = c a k := f5'
  have f6 : ∀ y k, ¬ (y = 77 ∧ 20 ≤ k ∧ k ≤ 25) → r1 y k = up r 96 x 0 y k := f6'
  refine ⟨up c1 6 x v, up r1 98 x w, e_97_1 (by omega) (tx_all (i := 21) (by decide)) G.1 ((e_fld hx).1 f1), ?_, j1, f3, (f4.upc (by omega)).upr (by omega), f5'.fr.up (by omega), ((FMr.refl.up (by omega)).trans f6'.fr (Nat.le_refl _) (Nat.le_refl _) (by omega)).up (by omega), (by simp (disch := omega) only [up_ne, up_same, f5, f6, i4, i5, i6, i7, i9, m95, m98, m100]), (by simp (disch := omega) only [up_ne, up_same, f5, f6, i4, i5, i6, i7, i9, m95, m98, m100]), ?_⟩
  · rw [q149y hx G.2.1 (by omega), q183 hx f2, q193n (by omega) (Or.inr (by omega)), q253n (by omega) (Or.inr (by omega)), q275n (by omega) (Or.inr (by omega))]
  · rcases f7 with ⟨g1, g2, hw, g4⟩ | f7
    · refine Or.inl ⟨(g1.upc (by omega)).upr (by omega), ?_, PK.mk (k := 12) (o := 0) (v := v) (m := 0) (by simp (disch := omega) only [up_ne, up_same, f5, f6, i4, i5, i6, i7, i9, m95, m98, m100]) (by simp (disch := omega) only [up_ne, up_same, f5, f6, i4, i5, i6, i7, i9, m95, m98, m100]) (by simp (disch := omega) only [up_ne, up_same, f5, f6, i4, i5, i6, i7, i9, m95, m98, m100]) (by simp (disch := omega) only [up_ne, up_same, f5, f6, i4, i5, i6, i7, i9, m95, m98, m100]) (by simp (disch := omega) only [up_ne, up_same, f5, f6, i4, i5, i6, i7, i9, m95, m98, m100]) (by simp (disch := omega) only [up_ne, up_same, f5, f6, i4, i5, i6, i7, i9, m95, m98, m100]) (by simp (disch := omega) only [up_ne, up_same, f5, f6, hw, i4, i5, i6, i7, i9, m95, m98, m100]) (by simp (disch := omega) only [up_ne, up_same, f5, f6, i4, i5, i6, i7, i9, m95, m98, m100]) (by unfold KO; omega) (fun e => by omega) (fun e => by omega)⟩
      show (j : Int) + 2 ≤ (j1 : Int) + 1
      omega
    · exact Or.inr ((f7.upc (by omega)).upr (by omega))
theorem p_d {N x : Nat} (hN : 500 ≤ N) (hx : x < 24) {g : St → Option Rs} {c r : St} {b : Nat → Int} {z n j : Nat} {k : Int} (hk : k = 8 ∨ k = 9) (H : RD c r b z n j) (G : gd c r b z j) (I : INI c r x k 0) : ∃ c' r', d_x2_readPart_97L N N c (x : Int) (2 * 20 + 1) 0 = some (c', 0) ∧ d_x8_row_149 N g r (x : Int) k 0 (x : Int) = d_x8_row_292 N g r' (x : Int) k ∧ PQ x k b z n j c r c' r' := by
  obtain ⟨i4, i5, i6, i7, i9, m95, m98, m100⟩ := I
  obtain ⟨c1, r1, v, w, f1, f2, j1, f3, f4, f5', f6', f7⟩ := r_numb hN (lo := 0) (hi := 9999) (H.upr (a := 96) (x := x) (v := 0) (by omega)) (G.upr (by omega)) (by decide) (by decide)
  have f5 : ∀ a k, ¬ (a = 1 ∧ (k = 6 ∨ k = 7)) → c1 a k = c a k := f5'
  have f6 : ∀ y k, ¬ (y = 77 ∧ 20 ≤ k ∧ k ≤ 25) → r1 y k = up r 96 x 0 y k := f6'
  refine ⟨up c1 6 x v, up r1 98 x w, e_97_1 (by omega) (tx_all (i := 20) (by decide)) G.1 ((e_fld hx).2.2.1 f1), ?_, j1, f3, (f4.upc (by omega)).upr (by omega), f5'.fr.up (by omega), ((FMr.refl.up (by omega)).trans f6'.fr (Nat.le_refl _) (Nat.le_refl _) (by omega)).up (by omega), (by simp (disch := omega) only [up_ne, up_same, f5, f6, i4, i5, i6, i7, i9, m95, m98, m100]), (by simp (disch := omega) only [up_ne, up_same, f5, f6, i4, i5, i6, i7, i9, m95, m98, m100]), ?_⟩
  · rw [q149n hx (by omega) (Or.inr (by omega)), q193d hx (by rw [up_ne (by decide)]; exact G.2.1) hk f2, q253n (by omega) (Or.inr (by omega)), q275n (by omega) (Or.inr (by omega))]
  · rcases f7 with ⟨g1, g2, hw, g4⟩ | f7
    · refine Or.inl ⟨(g1.upc (by omega)).upr (by omega), ?_, PK.mk (k := k) (o := 0) (v := v) (m := 0) (by simp (disch := omega) only [up_ne, up_same, f5, f6, i4, i5, i6, i7, i9, m95, m98, m100]) (by simp (disch := omega) only [up_ne, up_same, f5, f6, i4, i5, i6, i7, i9, m95, m98, m100]) (by simp (disch := omega) only [up_ne, up_same, f5, f6, i4, i5, i6, i7, i9, m95, m98, m100]) (by simp (disch := omega) only [up_ne, up_same, f5, f6, i4, i5, i6, i7, i9, m95, m98, m100]) (by simp (disch := omega) only [up_ne, up_same, f5, f6, i4, i5, i6, i7, i9, m95, m98, m100]) (by simp (disch := omega) only [up_ne, up_same, f5, f6, i4, i5, i6, i7, i9, m95, m98, m100]) (by simp (disch := omega) only [up_ne, up_same, f5, f6, hw, i4, i5, i6, i7, i9, m95, m98, m100]) (by simp (disch := omega) only [up_ne, up_same, f5, f6, i4, i5, i6, i7, i9, m95, m98, m100]) (by unfold KO; omega) (fun e => by omega) (fun e => by omega)⟩
      unfold tkc
      rw [if_neg (by omega), if_neg (by omega), if_neg (by omega)]
      omega
    · exact Or.inr ((f7.upc (by omega)).upr (by omega))
theorem p_c {N x : Nat} (hN : 500 ≤ N) (hx : x < 24) {g : St → Option Rs} {c r : St} {b : Nat → Int} {z n j : Nat} (H : RD c r b z n j) (G : gd c r b z j) (I : INI c r x 13 0) : ∃ c' r', d_x2_readPart_97L N N c (x : Int) (2 * 22 + 1) 0 = some (c', 0) ∧ d_x8_row_149 N g r (x : Int) 13 0 (x : Int) = d_x8_row_292 N g r' (x : Int) 13 ∧ PQ x 13 b z n j c r c' r' := by
  obtain ⟨i4, i5, i6, i7, i9, m95, m98, m100⟩ := I
  obtain ⟨c1, r1, v, w, f1, f2, j1, f3, f4, f5', f6', f7⟩ := r_numb hN (lo := 1) (hi := 9) (H.upr (a := 96) (x := x) (v := 0) (by omega)) (G.upr (by omega)) (by decide) (by decide)
  have f5 : ∀ a k, ¬ (a = 1 ∧ (k = 6 ∨ k = 7)) → c1 a k = c a k := f5'
  have f6 : ∀ y k, ¬ (y = 77 ∧ 20 ≤ k ∧ k ≤ 25) → r1 y k = up r 96 x 0 y k := f6'
  refine ⟨up c1 6 x v, up r1 98 x w, e_97_1 (by omega) (tx_all (i := 22) (by decide)) G.1 ((e_fld hx).2.2.2.1 f1), ?_, j1, f3, (f4.upc (by omega)).upr (by omega), f5'.fr.up (by omega), ((FMr.refl.up (by omega)).trans f6'.fr (Nat.le_refl _) (Nat.le_refl _) (by omega)).up (by omega), (by simp (disch := omega) only [up_ne, up_same, f5, f6, i4, i5, i6, i7, i9, m95, m98, m100]), (by simp (disch := omega) only [up_ne, up_same, f5, f6, i4, i5, i6, i7, i9, m95, m98, m100]), ?_⟩
  · rw [q149n hx (by omega) (Or.inr (by omega)), q193c hx (by rw [up_ne (by decide)]; exact G.2.1) f2, q253n (by omega) (Or.inr (by omega)), q275n (by omega) (Or.inr (by omega))]
  · rcases f7 with ⟨g1, g2, hw, g4⟩ | f7
    · refine Or.inl ⟨(g1.upc (by omega)).upr (by omega), ?_, PK.mk (k := 13) (o := 0) (v := v) (m := 0) (by simp (disch := omega) only [up_ne, up_same, f5, f6, i4, i5, i6, i7, i9, m95, m98, m100]) (by simp (disch := omega) only [up_ne, up_same, f5, f6, i4, i5, i6, i7, i9, m95, m98, m100]) (by simp (disch := omega) only [up_ne, up_same, f5, f6, i4, i5, i6, i7, i9, m95, m98, m100]) (by simp (disch := omega) only [up_ne, up_same, f5, f6, i4, i5, i6, i7, i9, m95, m98, m100]) (by simp (disch := omega) only [up_ne, up_same, f5, f6, i4, i5, i6, i7, i9, m95, m98, m100]) (by simp (disch := omega) only [up_ne, up_same, f5, f6, i4, i5, i6, i7, i9, m95, m98, m100]) (by simp (disch := omega) only [up_ne, up_same, f5, f6, hw, i4, i5, i6, i7, i9, m95, m98, m100]) (by simp (disch := omega) only [up_ne, up_same, f5, f6, i4, i5, i6, i7, i9, m95, m98, m100]) (by unfold KO; omega) (fun e => by omega) (fun e => by omega)⟩
      show (j : Int) + 2 ≤ (j1 : Int) + 1
      omega
    · exact Or.inr ((f7.upc (by omega)).upr (by omega))
theorem p_o {N x : Nat} (hN : 500 ≤ N) (hx : x < 24) {g : St → Option Rs} {c r : St} {b : Nat → Int} {z n j : Nat} {k : Int} (hk : k = 6 ∨ k = 10) (H : RD c r b z n j) (G : gd c r b z j) (I : INI c r x k 0) : ∃ c' r', d_x2_readPart_97L N N c (x : Int) (2 * 19 + 1) 0 = some (c', 0) ∧ (bI (d_x8_op N r 0) fun s v => d_x8_row_149 N g s (x : Int) k v (x : Int)) = d_x8_row_292 N g r' (x : Int) k ∧ PQ x k b z n j c r c' r' := by
  obtain ⟨i4, i5, i6, i7, i9, m95, m98, m100⟩ := I
  obtain ⟨c1, r1, v, w, f1, f2, j1, f3, f4, f5', f6', f7⟩ := r_sign hN (t := 23) (Or.inl rfl) H G
  rw [if_pos rfl] at f2
  have f5 : ∀ a k, ¬ (a = 1 ∧ (k = 6 ∨ k = 7)) → c1 a k = c a k := f5'
  have f6 : ∀ y k, ¬ (y = 77 ∧ 20 ≤ k ∧ k ≤ 25) → r1 y k = r y k := f6'
  refine ⟨up c1 5 x v, up r1 96 x w, e_97_1 (by omega) (tx_all (i := 19) (by decide)) G.1 ((e_fld hx).2.2.2.2.1 f1), ?_, j1, f3, (f4.upc (by omega)).upr (by omega), f5'.fr.up (by omega), f6'.fr.up (by omega), (by simp (disch := omega) only [up_ne, up_same, f5, f6, i4, i5, i6, i7, i9, m95, m98, m100]), (by simp (disch := omega) only [up_ne, up_same, f5, f6, i4, i5, i6, i7, i9, m95, m98, m100]), ?_⟩
  · rw [f2, bI_some, q149n hx (by omega) (Or.inr (by omega)), q193n (by omega) (Or.inr (by omega)), q253n (by omega) (Or.inr (by omega)), q275n (by omega) (Or.inr (by omega))]
  · rcases f7 with ⟨g1, g2, hw, g4⟩ | f7
    · refine Or.inl ⟨(g1.upc (by omega)).upr (by omega), ?_, PK.mk (k := k) (o := v) (v := 0) (m := 0) (by simp (disch := omega) only [up_ne, up_same, f5, f6, i4, i5, i6, i7, i9, m95, m98, m100]) (by simp (disch := omega) only [up_ne, up_same, f5, f6, i4, i5, i6, i7, i9, m95, m98, m100]) (by simp (disch := omega) only [up_ne, up_same, f5, f6, i4, i5, i6, i7, i9, m95, m98, m100]) (by simp (disch := omega) only [up_ne, up_same, f5, f6, i4, i5, i6, i7, i9, m95, m98, m100]) (by simp (disch := omega) only [up_ne, up_same, f5, f6, i4, i5, i6, i7, i9, m95, m98, m100]) (by simp (disch := omega) only [up_ne, up_same, f5, f6, hw, i4, i5, i6, i7, i9, m95, m98, m100]) (by simp (disch := omega) only [up_ne, up_same, f5, f6, i4, i5, i6, i7, i9, m95, m98, m100]) (by simp (disch := omega) only [up_ne, up_same, f5, f6, i4, i5, i6, i7, i9, m95, m98, m100]) (by unfold sgs at g4; unfold KO; omega) (fun e => by omega) (fun e => by omega)⟩
      unfold tkc
      rw [if_neg (by omega), if_neg (by omega), if_neg (by omega)]
      omega
    · exact Or.inr ((f7.upc (by omega)).upr (by omega))
theorem p_l {N x : Nat} (hN : 500 ≤ N) (hx : x < 24) {g : St → Option Rs} {c r : St} {b : Nat → Int} {z n j : Nat} (H : RD c r b z n j) (G : gd c r b z j) (I : INI c r x 2 0) : ∃ c' r', d_x2_readPart_97L N N c (x : Int) (2 * 16 + 1) 0 = some (c', 0) ∧ d_x8_row_149 N g r (x : Int) 2 0 (x : Int) = d_x8_row_292 N g r' (x : Int) 2 ∧ PQ x 2 b z n j c r c' r' := by
  obtain ⟨i4, i5, i6, i7, i9, m95, m98, m100⟩ := I
  obtain ⟨c1, r1, v, w, f1, f2, j1, f3, f4, f5', f6', f7⟩ := r_list hN hx (H.upr (a := 96) (x := x) (v := 0) (by omega)) (G.upr (by omega))
  have f5 : ∀ a k, ¬ (a = 1 ∧ (k = 6 ∨ k = 7)) → ¬ (a = 9 ∧ k = x) → ¬ (a = 10 ∧ 8 * x ≤ k ∧ k < 8 * x + 8) → c1 a k = c a k := f5'
  have f6 : ∀ y k, ¬ (y = 77 ∧ 20 ≤ k ∧ k ≤ 25) → ¬ (y = 100 ∧ k = x) → ¬ (y = 101 ∧ 8 * x ≤ k ∧ k < 8 * x + 8) → r1 y k = up r 96 x 0 y k := f6'
  refine ⟨c1, r1, e_97_1 (by omega) (tx_all (i := 16) (by decide)) G.1 ((e_fld hx).2.2.2.2.2.2 f1), ?_, j1, f3, f4, f5'.fr, (FMr.refl.up (by omega)).trans f6'.fr (Nat.le_refl _) (Nat.le_refl _) (by omega), (by simp (disch := omega) only [up_ne, up_same, f5, f6, i4, i5, i6, i7, i9, m95, m98, m100]), (by simp (disch := omega) only [up_ne, up_same, f5, f6, i4, i5, i6, i7, i9, m95, m98, m100]), ?_⟩
  · rw [q149n hx (by omega) (Or.inr (by omega)), q193n (by omega) (Or.inr (by omega)), q253n (by omega) (Or.inr (by omega)), q275y (by rw [up_ne (by decide)]; exact G.2.1) f2]
  · rcases f7 with ⟨g1, k, k1, k8, h9, h100, E, g7⟩ | f7
    · refine Or.inl ⟨g1, ?_, PK.mk (k := 2) (o := 0) (v := 0) (m := (k : Int)) (by simp (disch := omega) only [up_ne, up_same, f5, f6, i4, i5, i6, i7, i9, m95, m98, m100]) (by simp (disch := omega) only [up_ne, up_same, f5, f6, i4, i5, i6, i7, i9, m95, m98, m100]) (by simp (disch := omega) only [up_ne, up_same, f5, f6, i4, i5, i6, i7, i9, m95, m98, m100]) h9 (by simp (disch := omega) only [up_ne, up_same, f5, f6, i4, i5, i6, i7, i9, m95, m98, m100]) (by simp (disch := omega) only [up_ne, up_same, f5, f6, i4, i5, i6, i7, i9, m95, m98, m100]) (by simp (disch := omega) only [up_ne, up_same, f5, f6, i4, i5, i6, i7, i9, m95, m98, m100]) h100 (by unfold KO; omega) (fun e => by omega) (fun _ i hi => ?_)⟩
      · rw [h9]
        show (j : Int) + 2 * (k : Int) ≤ (j1 : Int) + 1
        omega
      · have := E i (by omega)
        exact ⟨this.1.symm, this.2⟩
    · exact Or.inr f7
theorem p_ns {N x : Nat} (hN : 500 ≤ N) (hx : x < 24) {g : St → Option Rs} {c r : St} {b : Nat → Int} {z n j : Nat} (H : RD c r b z n j) (G : gd c r b z j) (I : INI c r x 1 0) : ∃ c' r', d_x2_readPart_97L N N c (x : Int) (2 * 15 + 1) 0 = some (c', 0) ∧ d_x8_row_149 N g r (x : Int) 1 0 (x : Int) = d_x8_row_292 N g r' (x : Int) 1 ∧ PQ x 1 b z n j c r c' r' := by
  obtain ⟨i4, i5, i6, i7, i9, m95, m98, m100⟩ := I
  obtain ⟨c1, r1, v, w, f1, f2, j1, f3, f4, f5', f6', f7⟩ := r_num hN (H.upr (a := 96) (x := x) (v := 0) (by omega)) (G.upr (by omega))
  have f5 : ∀ a k, ¬ (a = 1 ∧ (k = 6 ∨ k = 7)) → c1 a k = c a k := f5'
  have f6 : ∀ y k, ¬ (y = 77 ∧ 20 ≤ k ∧ k ≤ 25) → r1 y k = up r 96 x 0 y k := f6'
  have L := e_97_2 (N := N) (y := 115) (by omega) (tx_all (i := 15) (by decide)) G.1 ((e_fld hx).1 f1)
  rcases f7 with ⟨g1, g2, hw, g4⟩ | f7
  · have H2 := (f4.upc (a := 6) (x := x) (v := v) (by omega)).upr (a := 98) (x := x) (v := w) (by omega)
    have G2 := (g1.upc (a := 6) (x := x) (v := v) (by omega)).upr (a := 98) (x := x) (v := w) (by omega)
    obtain ⟨c2, r2, v2, w2, g1', g2', j2, g3, g4', g5', g6', g7⟩ := r_num hN H2 G2
    have g5 : ∀ a k, ¬ (a = 1 ∧ (k = 6 ∨ k = 7)) → c2 a k = up c1 6 x v a k := g5'
    have g6 : ∀ y k, ¬ (y = 77 ∧ 20 ≤ k ∧ k ≤ 25) → r2 y k = up r1 98 x w y k := g6'
    have hw2 := hw
    refine ⟨up c2 7 x v2, up r2 99 x w2, L.1 _ _ (by rw [up_ne (by decide)]; exact g1.1) ((e_fld hx).2.1 g1'), ?_, j2, by omega, (g4'.upc (by omega)).upr (by omega), ((f5'.fr.up (by omega)).trans g5'.fr (Nat.le_refl _) (Nat.le_refl _) (by omega)).up (by omega), ((((FMr.refl.up (by omega)).trans f6'.fr (Nat.le_refl _) (Nat.le_refl _) (by omega)).up (by omega)).trans g6'.fr (Nat.le_refl _) (Nat.le_refl _) (by omega)).up (by omega), (by simp (disch := omega) only [up_ne, up_same, f5, f6, g5, g6, hw, hw2, i4, i5, i6, i7, i9, m95, m98, m100]), (by simp (disch := omega) only [up_ne, up_same, f5, f6, g5, g6, hw, hw2, i4, i5, i6, i7, i9, m95, m98, m100]), ?_⟩
    · rw [q149y hx G.2.1 (by omega), q183 hx f2, q193n (by omega) (Or.inr (by omega)), q253y hx G2.2.1 g2', q275n (by omega) (Or.inr (by omega))]
    · rcases g7 with ⟨k1, k2, kw, k4⟩ | g7
      · refine Or.inl ⟨(k1.upc (by omega)).upr (by omega), ?_, PK.mk (k := 1) (o := 0) (v := v) (m := 0) (by simp (disch := omega) only [up_ne, up_same, f5, f6, g5, g6, hw, hw2, i4, i5, i6, i7, i9, m95, m98, m100]) (by simp (disch := omega) only [up_ne, up_same, f5, f6, g5, g6, hw, hw2, i4, i5, i6, i7, i9, m95, m98, m100]) (by simp (disch := omega) only [up_ne, up_same, f5, f6, g5, g6, hw, hw2, i4, i5, i6, i7, i9, m95, m98, m100]) (by simp (disch := omega) only [up_ne, up_same, f5, f6, g5, g6, hw, hw2, i4, i5, i6, i7, i9, m95, m98, m100]) (by simp (disch := omega) only [up_ne, up_same, f5, f6, g5, g6, hw, hw2, i4, i5, i6, i7, i9, m95, m98, m100]) (by simp (disch := omega) only [up_ne, up_same, f5, f6, g5, g6, hw, hw2, i4, i5, i6, i7, i9, m95, m98, m100]) (by simp (disch := omega) only [up_ne, up_same, f5, f6, g5, g6, hw, hw2, i4, i5, i6, i7, i9, m95, m98, m100]) (by simp (disch := omega) only [up_ne, up_same, f5, f6, g5, g6, hw, hw2, i4, i5, i6, i7, i9, m95, m98, m100]) (by unfold KO; omega) (fun _ => ?_) (fun e => by omega)⟩
        · show (j : Int) + 3 ≤ (j2 : Int) + 1
          omega
        · rw [up_same, up_same, kw]
          exact ⟨rfl, k4⟩
      · exact Or.inr ((g7.upc (by omega)).upr (by omega))
  · have B2 := (f7.upc (a := 6) (x := x) (v := v) (by omega)).upr (a := 98) (x := x) (v := w) (by omega)
    refine ⟨up c1 6 x v, up r1 98 x w, L.2 B2.2.1 B2.2.2.1, ?_, j1, f3, (f4.upc (by omega)).upr (by omega), f5'.fr.up (by omega), ((FMr.refl.up (by omega)).trans f6'.fr (Nat.le_refl _) (Nat.le_refl _) (by omega)).up (by omega), (by simp (disch := omega) only [up_ne, up_same, f5, f6, i4, i5, i6, i7, i9, m95, m98, m100]), (by simp (disch := omega) only [up_ne, up_same, f5, f6, i4, i5, i6, i7, i9, m95, m98, m100]), Or.inr B2⟩
    rw [q149y hx G.2.1 (by omega), q183 hx f2, q193n (by omega) (Or.inr (by omega)), q253n (by omega) (Or.inl B2.2.2.2), q275n (by omega) (Or.inr (by omega))]
theorem p_on {N x t : Nat} (hN : 500 ≤ N) (hx : x < 24) {g : St → Option Rs} {c r : St} {b : Nat → Int} {z n j : Nat} {k : Int} (hk : (t = 23 ∧ k = 3) ∨ (t = 24 ∧ (k = 4 ∨ k = 5))) (H : RD c r b z n j) (G : gd c r b z j) (I : INI c r x k 0) : ∃ c' r', d_x2_readPart_97L N N c (x : Int) (2 * (t - 6) + 1) 0 = some (c', 0) ∧ (bI (d_x8_op N r (if t = 23 then 0 else 1)) fun s v => d_x8_row_149 N g s (x : Int) k v (x : Int)) = d_x8_row_292 N g r' (x : Int) k ∧ PQ x k b z n j c r c' r' := by
  obtain ⟨i4, i5, i6, i7, i9, m95, m98, m100⟩ := I
  obtain ⟨c1, r1, v, w, f1, f2, j1, f3, f4, f5', f6', f7⟩ := r_sign hN (t := t) (by omega) H G
  have f5 : ∀ a k, ¬ (a = 1 ∧ (k = 6 ∨ k = 7)) → c1 a k = c a k := f5'
  have f6 : ∀ y k, ¬ (y = 77 ∧ 20 ≤ k ∧ k ≤ 25) → r1 y k = r y k := f6'
  have L : (∀ c2 w, up c1 5 x v 1 7 = -1 → d_x2_readField N (up c1 5 x v) (x : Int) 110 = some (c2, w) → d_x2_readPart_97L N N c (x : Int) (2 * (t - 6) + 1) 0 = some (c2, 0)) ∧ (0 ≤ up c1 5 x v 1 7 → up c1 5 x v 1 7 ≤ 120 → d_x2_readPart_97L N N c (x : Int) (2 * (t - 6) + 1) 0 = some (up c1 5 x v, 0)) := by
    rcases hk with ⟨et, _⟩ | ⟨et, _⟩ <;> subst et
    · exact e_97_2 (N := N) (y := 110) (by omega) (tx_all (i := 17) (by decide)) G.1 ((e_fld hx).2.2.2.2.1 f1)
    · exact e_97_2 (N := N) (y := 110) (by omega) (tx_all (i := 18) (by decide)) G.1 ((e_fld hx).2.2.2.2.2.1 f1)
  rcases f7 with ⟨g1, g2, hw, g4⟩ | f7
  · have H2 := (f4.upc (a := 5) (x := x) (v := v) (by omega)).upr (a := 96) (x := x) (v := w) (by omega)
    have G2 := (g1.upc (a := 5) (x := x) (v := v) (by omega)).upr (a := 96) (x := x) (v := w) (by omega)
    obtain ⟨c2, r2, v2, w2, g1', g2', j2, g3, g4', g5', g6', g7⟩ := r_num hN H2 G2
    have g5 : ∀ a k, ¬ (a = 1 ∧ (k = 6 ∨ k = 7)) → c2 a k = up c1 5 x v a k := g5'
    have g6 : ∀ y k, ¬ (y = 77 ∧ 20 ≤ k ∧ k ≤ 25) → r2 y k = up r1 96 x w y k := g6'
    have hw2' := hw
    refine ⟨up c2 6 x v2, up r2 98 x w2, L.1 _ _ (by rw [up_ne (by decide)]; exact g1.1) ((e_fld hx).1 g1'), ?_, j2, by omega, (g4'.upc (by omega)).upr (by omega), ((f5'.fr.up (by omega)).trans g5'.fr (Nat.le_refl _) (Nat.le_refl _) (by omega)).up (by omega), ((f6'.fr.up (by omega)).trans g6'.fr (Nat.le_refl _) (Nat.le_refl _) (by omega)).up (by omega), (have hw2 := hw; (by simp (disch := omega) only [up_ne, up_same, f5, f6, g5, g6, hw, hw2, i4, i5, i6, i7, i9, m95, m98, m100])), (have hw2 := hw; (by simp (disch := omega) only [up_ne, up_same, f5, f6, g5, g6, hw, hw2, i4, i5, i6, i7, i9, m95, m98, m100])), ?_⟩
    · rw [f2, bI_some, q149y hx g1.2.1 (by omega), q183 hx g2', q193n (by omega) (Or.inr (by omega)), q253n (by omega) (Or.inr (by omega)), q275n (by omega) (Or.inr (by omega))]
    · rcases g7 with ⟨k1, k2, hw2, k4⟩ | g7
      · refine Or.inl ⟨(k1.upc (by omega)).upr (by omega), ?_, PK.mk (k := k) (o := v) (v := v2) (m := 0) (by simp (disch := omega) only [up_ne, up_same, f5, f6, g5, g6, hw, hw2, i4, i5, i6, i7, i9, m95, m98, m100]) (by simp (disch := omega) only [up_ne, up_same, f5, f6, g5, g6, hw, hw2, i4, i5, i6, i7, i9, m95, m98, m100]) (by simp (disch := omega) only [up_ne, up_same, f5, f6, g5, g6, hw, hw2, i4, i5, i6, i7, i9, m95, m98, m100]) (by simp (disch := omega) only [up_ne, up_same, f5, f6, g5, g6, hw, hw2, i4, i5, i6, i7, i9, m95, m98, m100]) (by simp (disch := omega) only [up_ne, up_same, f5, f6, g5, g6, hw, hw2, i4, i5, i6, i7, i9, m95, m98, m100]) (by simp (disch := omega) only [up_ne, up_same, f5, f6, g5, g6, hw, hw2, i4, i5, i6, i7, i9, m95, m98, m100]) (by simp (disch := omega) only [up_ne, up_same, f5, f6, g5, g6, hw, hw2, i4, i5, i6, i7, i9, m95, m98, m100]) (by simp (disch := omega) only [up_ne, up_same, f5, f6, g5, g6, hw, hw2, i4, i5, i6, i7, i9, m95, m98, m100]) (by unfold sgs at g4; unfold KO; omega) (fun e => by omega) (fun e => by omega)⟩
        unfold tkc
        rw [if_neg (by omega), if_pos (by omega)]
        omega
      · exact Or.inr ((g7.upc (by omega)).upr (by omega))
  · have B2 := (f7.upc (a := 5) (x := x) (v := v) (by omega)).upr (a := 96) (x := x) (v := w) (by omega)
    refine ⟨up c1 5 x v, up r1 96 x w, L.2 B2.2.1 B2.2.2.1, ?_, j1, f3, (f4.upc (by omega)).upr (by omega), f5'.fr.up (by omega), f6'.fr.up (by omega), (by simp (disch := omega) only [up_ne, up_same, f5, f6, i4, i5, i6, i7, i9, m95, m98, m100]), (by simp (disch := omega) only [up_ne, up_same, f5, f6, i4, i5, i6, i7, i9, m95, m98, m100]), Or.inr B2⟩
    rw [f2, bI_some, q149n hx (by omega) (Or.inl f7.2.2.2), q193n (by omega) (Or.inr (by omega)), q253n (by omega) (Or.inr (by omega)), q275n (by omega) (Or.inr (by omega))]
