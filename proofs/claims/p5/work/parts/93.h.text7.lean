theorem m_sgb {N : Nat} {s : St} {x : Int} (hx : 0 ≤ x ∧ x ≤ 255) : d_x8_isSignByte N s x = some (s, if so x = 3 then 1 else 0) := by
  unfold d_x8_isSignByte d_x8_isSignByte_54
  rw [w32i (x := x) (by omega) (by omega)]
  by_cases h : so x = 3
  · rw [if_pos h]
    rcases so_3.mp h with e | e | e | e | e | e | e | e | e <;> rw [e] <;> rfl
  · have h' : ¬ (x = 43 ∨ x = 45 ∨ x = 42 ∨ x = 47 ∨ x = 37 ∨ x = 60 ∨ x = 62 ∨ x = 61 ∨ x = 44) := fun q => h (so_3.mpr q)
    rw [if_neg h, if_neg (by omega), if_neg (by omega), if_neg (by omega), if_neg (by omega), if_neg (by omega), if_neg (by omega), if_neg (by omega), if_neg (by omega), if_neg (by omega)]
theorem srt_s {b : Nat → Int} {a e : Nat} (h : so (b a) ≠ 2) : srt b a e = so (b a) := by
  unfold srt
  rw [if_neg (fun q => h q.1)]
theorem tkm_s {b : Nat → Int} {a e : Nat} (h : so (b a) ≠ 1) : tkm b a e = srt b a e := by
  unfold tkm
  refine if_neg (fun q => ?_)
  have q1 := q.1
  unfold srt at q1
  split at q1
  · exact absurd q1 (by decide)
  · exact h q1
/-- the model's next TOKEN -/
theorem m_next {N : Nat} (hN : 500 ≤ N) {b : Nat → Int} {z j : Nat} : ∀ (f m p : Nat) (r : St), p + f = z → f < m → MB r b z → r 77 20 = p → rn b z 5 p = bgf b z j → One (d_x8_next_0L N m r) (fun r' _ => TKM r' b z j ∧ NF r r') := by
  intro f
  induction f with
  | zero =>
    intro m p r hp hm H h20 hr
    obtain ⟨m, rfl⟩ : ∃ m', m = m' + 1 := ⟨m - 1, by omega⟩
    have hz := H.2.1
    have ep : p = z := by omega
    have eb : bgf b z j = z := by rw [← hr, rn_end (by omega), ep]
    have H2 : MB (up r 77 22 (p : Int)) b z := H.cong (up_nj (by decide)) (fun k => up_ne (by decide))
    have e22 : up r 77 22 (p : Int) 77 20 = (p : Int) := by rw [up_nj (by decide)]; exact h20
    show One (d_x8_next_0 N (d_x8_next_0L N m) r) _
    unfold d_x8_next_0
    rw [h20, m_byte H (by omega), bI_some, if_neg (show ¬ p < z by omega), if_neg (by decide), h20, m_byte H (by omega), bI_some, if_neg (show ¬ p < z by omega), if_neg (by decide), bd_eq, h20, e22, m_byte H2 (by omega), bI_some, if_neg (show ¬ p < z by omega), bd_eq, if_pos (by decide), bd_eq, bd_eq]
    refine One.ret ⟨⟨?_, fun _ => ?_, fun q => ?_⟩, fun x k h => ?_⟩
    · rw [up_same, up_nj (by decide), up_nj (by decide), up_nj (by decide), H.1, eb]
    · rw [up_nj (by decide), up_same]
    · rw [eb] at q
      exact absurd q (Nat.lt_irrefl _)
    · rw [up_o (by omega), up_o (by omega), up_o (by omega), up_o (by omega)]
  | succ f ih =>
    intro m p r hp hm H h20 hr
    obtain ⟨m, rfl⟩ : ∃ m', m = m' + 1 := ⟨m - 1, by omega⟩
    have hz := H.2.1
    have g := (H.2.2 p (by omega)).2
    have gs := so_r (b p)
    show One (d_x8_next_0 N (d_x8_next_0L N m) r) _
    unfold d_x8_next_0 d_x8_next_26
    rw [h20, m_byte H (by omega), bI_some, if_pos (show p < z by omega), w32i (x := b p) (by omega) (by omega)]
    by_cases h5 : so (b p) = 5
    · have I := ih m (p + 1) (up r 77 20 ((p : Int) + 1)) (by omega) (by omega) (H.cong (up_nj (by decide)) (fun k => up_ne (by decide))) (by rw [up_same]; omega) (by rw [← rn_step (by omega) h5]; exact hr)
      have I2 := I.mono (Q' := fun r' _ => TKM r' b z j ∧ NF r r') (fun s v w => ⟨w.1, fun x k h => (w.2 x k h).trans (up_o (by omega))⟩)
      by_cases q : b p = 32
      · rw [if_pos q, bd_eq, h20]
        exact I2
      · have q2 : b p = 10 := by have := so_5.mp h5; omega
        rw [if_neg q, h20, m_byte H (by omega), bI_some, if_pos (show p < z by omega), w32i (x := b p) (by omega) (by omega), if_pos q2, bd_eq, h20]
        exact I2
    · have h5' : ¬ (b p = 32 ∨ b p = 10) := fun q => h5 (so_5.mpr q)
      have eb : bgf b z j = p := by rw [← hr, rn_stop h5]
      have hlt := te_le (b := b) (show p < z by omega)
      have H2 : MB (up r 77 22 (p : Int)) b z := H.cong (up_nj (by decide)) (fun k => up_ne (by decide))
      have e22 : up r 77 22 (p : Int) 77 20 = (p : Int) := by rw [up_nj (by decide)]; exact h20
      rw [if_neg (by omega), h20, m_byte H (by omega), bI_some, if_pos (show p < z by omega), w32i (x := b p) (by omega) (by omega), if_neg (by omega), bd_eq, h20, e22, m_byte H2 (by omega), bI_some, if_pos (show p < z by omega), bd_eq, w32i (x := b p) (by omega) (by omega), if_neg (by omega)]
      have H3 : MB (up (up r 77 22 (p : Int)) 77 21 4) b z := H2.cong (up_nj (by decide)) (fun k => up_ne (by decide))
      have e20 : up (up r 77 22 (p : Int)) 77 21 4 77 20 = (p : Int) := by rw [up_nj (by decide)]; exact e22
      have e22' : up (up r 77 22 (p : Int)) 77 21 4 77 22 = (p : Int) := by rw [up_nj (by decide), up_same]
      have fr : NF r (up (up r 77 22 (p : Int)) 77 21 4) := fun x k h => by rw [up_o (by omega), up_o (by omega)]
      have e21 : up (up r 77 22 (p : Int)) 77 21 4 77 21 = 4 := up_same
      have i1 : ∀ lo hi : Int, r32 lo → r32 hi → (lo ≤ b p ∧ b p ≤ hi) → d_x8_in N (up (up r 77 22 (p : Int)) 77 21 4) (b p) lo hi = some (up (up r 77 22 (p : Int)) 77 21 4, 1) := fun lo hi h1 h2 h3 => by
        rw [e_in32 N _ (show r32 (b p) by unfold r32; omega) h1 h2, if_pos h3]
      have i0 : ∀ lo hi : Int, r32 lo → r32 hi → ¬ (lo ≤ b p ∧ b p ≤ hi) → d_x8_in N (up (up r 77 22 (p : Int)) 77 21 4) (b p) lo hi = some (up (up r 77 22 (p : Int)) 77 21 4, 0) := fun lo hi h1 h2 h3 => by
        rw [e_in32 N _ (show r32 (b p) by unfold r32; omega) h1 h2, if_neg h3]
      generalize up (up r 77 22 (p : Int)) 77 21 4 = s at *
      unfold TKM
      rw [eb]
      by_cases h1 : so (b p) = 1
      · have h1' := so_1.mp h1
        have et : te b z p = rn b z 1 (p + 1) := by unfold te; rw [if_pos (Or.inl h1), h1]
        have es : srt b p (te b z p) = 1 := by rw [srt_s (by omega), h1]
        rw [i1 97 122 (by unfold r32; omega) (by unfold r32; omega) h1', bI_some, if_neg (by decide)]
        refine (m_95 hlt h1' (z - p) N p s (by omega) (by omega) H3 e20 e22' (by rw [rn_step (by omega) h1]; exact et.symm)).mono (fun r' v w => ⟨⟨?_, fun q => by omega, fun _ => ⟨?_, fun _ => w.1, fun q => ?_⟩⟩, fun x k h => (w.2.2 x k (by omega)).trans (fr x k h)⟩)
        · rw [w.2.2 77 22 (by omega)]
          exact e22'
        · rw [w.2.1]
          unfold tkm
          rw [es]
          by_cases q : kd b p (te b z p - p) = -1
          · rw [if_pos q, if_pos ⟨rfl, q⟩]
          · rw [if_neg q, if_neg (fun y => q y.2)]
        · rw [w.2.1] at q
          split at q <;> omega
      · have h1' : ¬ (97 ≤ b p ∧ b p ≤ 122) := fun q => h1 (so_1.mpr q)
        rw [i0 97 122 (by unfold r32; omega) (by unfold r32; omega) h1', bI_some, if_pos (by decide)]
        have et := tkm_s (e := te b z p) h1
        by_cases h2 : so (b p) = 2
        · have h2' := so_2.mp h2
          have e2 : te b z p = rn b z 2 (p + 1) := by unfold te; rw [if_pos (Or.inr h2), h2]
          rw [i1 48 57 (by unfold r32; omega) (by unfold r32; omega) h2', bI_some, if_neg (by decide), bd_eq]
          have es : srt b p (te b z p) = (if 4 < te b z p - p then 4 else 2) := by
            unfold srt
            by_cases q : 4 < te b z p - p
            · rw [if_pos ⟨h2, q⟩, if_pos q]
            · rw [if_neg (fun y => q y.2), if_neg q, h2]
          refine (m_170 (a := p) (e := te b z p) (by omega) (z - p) N 0 (up s 77 23 0) (by omega) (by omega) (H3.cong (up_nj (by decide)) (fun k => up_ne (by decide))) (by rw [up_nj (by decide)]; exact e20) up_same (by rw [Nat.add_zero, rn_step (by omega) h2]; exact e2.symm)).mono (fun r' v w => ⟨⟨?_, fun q => by omega, fun _ => ⟨?_, fun _ => w.1, fun q => ?_⟩⟩, fun x k h => ?_⟩)
          · rw [w.2.2.2.2, up_nj (by decide)]
            exact e22'
          · rw [w.2.1, et, es]
          · rw [w.2.1] at q
            rw [w.2.2.1]
            unfold mng
            rw [es]
            by_cases y : 4 < te b z p - p
            · rw [if_pos y] at q
              omega
            · rw [if_neg y, if_neg (by decide), if_pos rfl, show min (te b z p - p) 4 = te b z p - p by omega]
          · rw [w.2.2.2.1 x k h, up_o (by omega)]
            exact fr x k h
        · have h2' : ¬ (48 ≤ b p ∧ b p ≤ 57) := fun q => h2 (so_2.mpr q)
          have es : srt b p (te b z p) = so (b p) := srt_s h2
          have e1 : te b z p = p + 1 := by unfold te; rw [if_neg (by omega)]
          rw [i0 48 57 (by unfold r32; omega) (by unfold r32; omega) h2', bI_some, if_pos (by decide), m_sgb g, bI_some]
          by_cases h3 : so (b p) = 3
          · rw [if_pos h3, if_neg (by decide), bd_eq, bd_eq, bd_eq, up_nj (show (20 : Nat) ≠ 23 by decide), up_nj (show (20 : Nat) ≠ 21 by decide), e20]
            refine One.ret ⟨⟨?_, fun q => by omega, fun _ => ⟨?_, fun _ => ?_, fun q => ?_⟩⟩, fun x k h => ?_⟩
            · rw [up_nj (by decide), up_nj (by decide), up_nj (by decide)]
              exact e22'
            · rw [up_nj (by decide), up_nj (by decide), up_same, et, es, h3]
            · rw [up_same, e1]
              omega
            · rw [up_nj (by decide), up_same]
              unfold mng
              rw [es, h3, if_neg (by decide), if_neg (by decide)]
            · rw [up_o (by omega), up_o (by omega), up_o (by omega)]
              exact fr x k h
          · rw [if_neg h3, if_pos w32_0]
            refine One.ret ⟨⟨e22', fun q => by omega, fun _ => ⟨?_, fun q => absurd e21 q, fun q => ?_⟩⟩, fr⟩
            · rw [e21, et, es]
              omega
            · rw [e21] at q
              omega
