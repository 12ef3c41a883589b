/-- two calls, one behind the other, from one state -/
theorem step2 {A B : St → Option Rs} (L : ∀ c r, RG c r → Two (A c) (B r) (QG c r)) {s : St} (H : RG s s) : ∃ s1 s2 v, A s = some (s1, v) ∧ B s1 = some (s2, v) ∧ RG s2 s2 := by
  obtain ⟨c1, r1, v, h1, h2, h3⟩ := L s s H
  have H1 : RG s c1 := H.cong (fun _ _ _ => rfl) (fun a k z => h3.2.1 a k z)
  obtain ⟨c2, r2, w, g1, g2, g3⟩ := L s c1 H1
  rw [h1] at g1
  have e1 : c1 = c2 := congrArg (fun z => (z.getD (c1, 0)).1) g1
  have e2 : v = w := congrArg (fun z => (z.getD (c1, 0)).2) g1
  subst e1
  subst e2
  exact ⟨c1, r2, v, h1, g2, g3.1.cong (fun a k z => g3.2.2 a k z) (fun _ _ _ => rfl)⟩
theorem step3 {A B : St → Option Rs} (L : ∀ c r, RG c r → Tw (A c) (B r) (fun c' r' => QG c r c' r' 0)) {s : St} (H : RG s s) : ∃ s1 s2 v w, A s = some (s1, v) ∧ B s1 = some (s2, w) ∧ RG s2 s2 := by
  obtain ⟨c1, r1, v, v', h1, h2, h3⟩ := L s s H
  have H1 : RG s c1 := H.cong (fun _ _ _ => rfl) (fun a k z => h3.2.1 a k z)
  obtain ⟨c2, r2, w, w', g1, g2, g3⟩ := L s c1 H1
  rw [h1] at g1
  have e1 : c1 = c2 := congrArg (fun z => (z.getD (c1, 0)).1) g1
  subst e1
  exact ⟨c1, r2, v, w', h1, g2, g3.1.cong (fun a k z => g3.2.2 a k z) (fun _ _ _ => rfl)⟩
/-- the law comes to its end with true -/
def Gd (X : Option Rs) : Prop := ∃ R, X = some R ∧ R.2 = 1
theorem Gd.i {p : Prop} [Decidable p] {A B : Option Rs} (h : p) (k : Gd A) : Gd (if p then A else B) := by rw [if_pos h]; exact k
theorem Gd.e {p : Prop} [Decidable p] {A B : Option Rs} (h : ¬ p) (k : Gd B) : Gd (if p then A else B) := by rw [if_neg h]; exact k
theorem Gd.c {A : Option Rs} {K : St → Int → Option Rs} {s : St} {v : Int} (h : A = some (s, v)) (k : Gd (K s v)) : Gd (bI A K) := by rw [h]; exact k
theorem Gd.q {A B : Option Rs} {v : Int} (k : Gd A) : Gd (if w32 v = w32 v then A else B) := Gd.i rfl k
theorem r32s (x : Int32) : r32 x.toInt := by
  have a := Int32.le_toInt x
  have b := Int32.toInt_lt x
  unfold r32
  omega
set_option maxHeartbeats 1000000 in
theorem law_step {N L : Nat} {xs : Nat → Int32} {k : St → Int → Option Rs} (hN : 20000 ≤ N) (ht : TextR N) {s : St} {x3 : Int} (hL : L ≤ 3072) (hx : 0 ≤ x3 ∧ x3 + 6 ≤ L) (H : RG s s) (ih : ∀ s', RG s' s' → Gd (k s' (x3 + 6))) : Gd (d_law_18 N (L, xs) k s x3) := by
  have fin : ∀ s', RG s' s' → Gd (d_law_1221 N (L, xs) k s' x3) := fun s' h => by
    unfold d_law_1221
    rw [bd_eq]
    exact ih s' h
  have g0 : 0 ≤ w32 x3 ∧ w32 x3 < (L : Int) := by rw [w32i (x := x3) (by omega) (by omega)]; omega
  have g1 : 0 ≤ w32 (x3 + 1) ∧ w32 (x3 + 1) < (L : Int) := by rw [w32i (x := x3 + 1) (by omega) (by omega)]; omega
  have g2 : 0 ≤ w32 (x3 + 2) ∧ w32 (x3 + 2) < (L : Int) := by rw [w32i (x := x3 + 2) (by omega) (by omega)]; omega
  have g3 : 0 ≤ w32 (x3 + 3) ∧ w32 (x3 + 3) < (L : Int) := by rw [w32i (x := x3 + 3) (by omega) (by omega)]; omega
  have g4 : 0 ≤ w32 (x3 + 4) ∧ w32 (x3 + 4) < (L : Int) := by rw [w32i (x := x3 + 4) (by omega) (by omega)]; omega
  have g5 : 0 ≤ w32 (x3 + 5) ∧ w32 (x3 + 5) < (L : Int) := by rw [w32i (x := x3 + 5) (by omega) (by omega)]; omega
  have hz : ¬ w32 ((L : Int) - 6) < w32 x3 := by rw [w32i (x := x3) (by omega) (by omega), w32i (x := (L : Int) - 6) (by omega) (by omega)]; omega
  unfold d_law_18
  refine Gd.e hz (Gd.i g0 ?_)
  show Gd (if (w32 (and32 ((xs (Int.toNat (w32 x3))).toInt) 31)) = 0 then _ else _)
  generalize w32 (and32 ((xs (Int.toNat (w32 x3))).toInt) 31) = q
  by_cases q0 : q = 0
  · refine Gd.i q0 ?_
    refine Gd.i g1 ?_
    obtain ⟨s1, s2, v, e1, e2, H2⟩ := step2 (A := fun c => d_x7_feed N c ((xs (Int.toNat (w32 (x3 + 1)))).toInt)) (B := fun r => d_x8_feed N r ((xs (Int.toNat (w32 (x3 + 1)))).toInt)) (fun c r h => r_feed (r32s _) h) H
    refine Gd.c e1 ?_
    refine Gd.i g1 ?_
    refine Gd.c e2 ?_
    first | exact fin s2 H2 | exact Gd.q (fin s2 H2)
  refine Gd.e q0 ?_
  by_cases q1 : q = 1
  · refine Gd.i q1 ?_
    refine Gd.i g1 ?_
    obtain ⟨s1, s2, v, e1, e2, H2⟩ := step2 (A := fun c => d_x7_text N c ((xs (Int.toNat (w32 (x3 + 1)))).toInt)) (B := fun r => d_x8_text N r ((xs (Int.toNat (w32 (x3 + 1)))).toInt)) (fun c r h => ht c r _ (r32s _) h) H
    refine Gd.c e1 ?_
    refine Gd.i g1 ?_
    refine Gd.c e2 ?_
    first | exact fin s2 H2 | exact Gd.q (fin s2 H2)
  refine Gd.e q1 ?_
  by_cases q2 : q = 2
  · refine Gd.i q2 ?_
    refine Gd.i g1 ?_
    obtain ⟨s1, s2, v, e1, e2, H2⟩ := step2 (A := fun c => d_x7_empty N c ((xs (Int.toNat (w32 (x3 + 1)))).toInt)) (B := fun r => d_x8_empty N r ((xs (Int.toNat (w32 (x3 + 1)))).toInt)) (fun c r h => r_empty (by omega) (r32s _) h) H
    refine Gd.c e1 ?_
    refine Gd.i g1 ?_
    refine Gd.c e2 ?_
    first | exact fin s2 H2 | exact Gd.q (fin s2 H2)
  refine Gd.e q2 ?_
  by_cases q3 : q = 3
  · refine Gd.i q3 ?_
    refine Gd.i g1 ?_
    refine Gd.i g2 ?_
    refine Gd.i g3 ?_
    obtain ⟨s1, s2, v, e1, e2, H2⟩ := step2 (A := fun c => d_x7_part N c ((xs (Int.toNat (w32 (x3 + 1)))).toInt) ((xs (Int.toNat (w32 (x3 + 2)))).toInt) ((xs (Int.toNat (w32 (x3 + 3)))).toInt)) (B := fun r => d_x8_part N r ((xs (Int.toNat (w32 (x3 + 1)))).toInt) ((xs (Int.toNat (w32 (x3 + 2)))).toInt) ((xs (Int.toNat (w32 (x3 + 3)))).toInt)) (fun c r h => r_part (by omega) (r32s _) (r32s _) (r32s _) h) H
    refine Gd.c e1 ?_
    refine Gd.i g1 ?_
    refine Gd.i g2 ?_
    refine Gd.i g3 ?_
    refine Gd.c e2 ?_
    first | exact fin s2 H2 | exact Gd.q (fin s2 H2)
  refine Gd.e q3 ?_
  by_cases q4 : q = 4
  · refine Gd.i q4 ?_
    refine Gd.i g1 ?_
    refine Gd.i g2 ?_
    obtain ⟨s1, s2, v, e1, e2, H2⟩ := step2 (A := fun c => d_x7_number N c ((xs (Int.toNat (w32 (x3 + 1)))).toInt) ((xs (Int.toNat (w32 (x3 + 2)))).toInt)) (B := fun r => d_x8_number N r ((xs (Int.toNat (w32 (x3 + 1)))).toInt) ((xs (Int.toNat (w32 (x3 + 2)))).toInt)) (fun c r h => r_number (r32s _) (r32s _) h) H
    refine Gd.c e1 ?_
    refine Gd.i g1 ?_
    refine Gd.i g2 ?_
    refine Gd.c e2 ?_
    first | exact fin s2 H2 | exact Gd.q (fin s2 H2)
  refine Gd.e q4 ?_
  by_cases q5 : q = 5
  · refine Gd.i q5 ?_
    refine Gd.i g1 ?_
    refine Gd.i g2 ?_
    refine Gd.i g3 ?_
    obtain ⟨s1, s2, v, e1, e2, H2⟩ := step2 (A := fun c => d_x7_entry N c ((xs (Int.toNat (w32 (x3 + 1)))).toInt) ((xs (Int.toNat (w32 (x3 + 2)))).toInt) ((xs (Int.toNat (w32 (x3 + 3)))).toInt)) (B := fun r => d_x8_entry N r ((xs (Int.toNat (w32 (x3 + 1)))).toInt) ((xs (Int.toNat (w32 (x3 + 2)))).toInt) ((xs (Int.toNat (w32 (x3 + 3)))).toInt)) (fun c r h => r_entry (r32s _) (r32s _) (r32s _) h) H
    refine Gd.c e1 ?_
    refine Gd.i g1 ?_
    refine Gd.i g2 ?_
    refine Gd.i g3 ?_
    refine Gd.c e2 ?_
    first | exact fin s2 H2 | exact Gd.q (fin s2 H2)
  refine Gd.e q5 ?_
  by_cases q6 : q = 6
  · refine Gd.i q6 ?_
    refine Gd.i g1 ?_
    refine Gd.i g2 ?_
    refine Gd.i g3 ?_
    obtain ⟨s1, s2, v, e1, e2, H2⟩ := step2 (A := fun c => d_x7_twist N c ((xs (Int.toNat (w32 (x3 + 1)))).toInt) ((xs (Int.toNat (w32 (x3 + 2)))).toInt) ((xs (Int.toNat (w32 (x3 + 3)))).toInt)) (B := fun r => d_x8_twist N r ((xs (Int.toNat (w32 (x3 + 1)))).toInt) ((xs (Int.toNat (w32 (x3 + 2)))).toInt) ((xs (Int.toNat (w32 (x3 + 3)))).toInt)) (fun c r h => r_twist (by omega) (r32s _) (r32s _) (r32s _) h) H
    refine Gd.c e1 ?_
    refine Gd.i g1 ?_
    refine Gd.i g2 ?_
    refine Gd.i g3 ?_
    refine Gd.c e2 ?_
    first | exact fin s2 H2 | exact Gd.q (fin s2 H2)
  refine Gd.e q6 ?_
  by_cases q7 : q = 7
  · refine Gd.i q7 ?_
    refine Gd.i g1 ?_
    refine Gd.i g2 ?_
    refine Gd.i g3 ?_
    obtain ⟨s1, s2, v, e1, e2, H2⟩ := step2 (A := fun c => d_x7_taken N c ((xs (Int.toNat (w32 (x3 + 1)))).toInt) ((xs (Int.toNat (w32 (x3 + 2)))).toInt) ((xs (Int.toNat (w32 (x3 + 3)))).toInt)) (B := fun r => d_x8_taken N r ((xs (Int.toNat (w32 (x3 + 1)))).toInt) ((xs (Int.toNat (w32 (x3 + 2)))).toInt) ((xs (Int.toNat (w32 (x3 + 3)))).toInt)) (fun c r h => r_taken (r32s _) (r32s _) (r32s _) h) H
    refine Gd.c e1 ?_
    refine Gd.i g1 ?_
    refine Gd.i g2 ?_
    refine Gd.i g3 ?_
    refine Gd.c e2 ?_
    first | exact fin s2 H2 | exact Gd.q (fin s2 H2)
  refine Gd.e q7 ?_
  by_cases q8 : q = 8
  · refine Gd.i q8 ?_
    refine Gd.i g1 ?_
    refine Gd.i g2 ?_
    obtain ⟨s1, s2, v, e1, e2, H2⟩ := step2 (A := fun c => d_x7_print N c ((xs (Int.toNat (w32 (x3 + 1)))).toInt) ((xs (Int.toNat (w32 (x3 + 2)))).toInt)) (B := fun r => d_x8_print N r ((xs (Int.toNat (w32 (x3 + 1)))).toInt) ((xs (Int.toNat (w32 (x3 + 2)))).toInt)) (fun c r h => r_print (by omega) (r32s _) (r32s _) h) H
    refine Gd.c e1 ?_
    refine Gd.i g1 ?_
    refine Gd.i g2 ?_
    refine Gd.c e2 ?_
    first | exact fin s2 H2 | exact Gd.q (fin s2 H2)
  refine Gd.e q8 ?_
  by_cases q9 : q = 9
  · refine Gd.i q9 ?_
    refine Gd.i g1 ?_
    refine Gd.i g2 ?_
    obtain ⟨s1, s2, v, e1, e2, H2⟩ := step2 (A := fun c => d_x7_there N c ((xs (Int.toNat (w32 (x3 + 1)))).toInt) ((xs (Int.toNat (w32 (x3 + 2)))).toInt)) (B := fun r => d_x8_there N r ((xs (Int.toNat (w32 (x3 + 1)))).toInt) ((xs (Int.toNat (w32 (x3 + 2)))).toInt)) (fun c r h => r_there (by omega) (r32s _) (r32s _) h) H
    refine Gd.c e1 ?_
    refine Gd.i g1 ?_
    refine Gd.i g2 ?_
    refine Gd.c e2 ?_
    first | exact fin s2 H2 | exact Gd.q (fin s2 H2)
  refine Gd.e q9 ?_
  by_cases q10 : q = 10
  · refine Gd.i q10 ?_
    refine Gd.i g1 ?_
    refine Gd.i g2 ?_
    obtain ⟨s1, s2, v, e1, e2, H2⟩ := step2 (A := fun c => d_x7_is N c ((xs (Int.toNat (w32 (x3 + 1)))).toInt) ((xs (Int.toNat (w32 (x3 + 2)))).toInt)) (B := fun r => d_x8_is N r ((xs (Int.toNat (w32 (x3 + 1)))).toInt) ((xs (Int.toNat (w32 (x3 + 2)))).toInt)) (fun c r h => (r_is (by omega) (r32s _) (r32s _) h).mono (fun _ _ _ z => z.1)) H
    refine Gd.c e1 ?_
    refine Gd.i g1 ?_
    refine Gd.i g2 ?_
    refine Gd.c e2 ?_
    first | exact fin s2 H2 | exact Gd.q (fin s2 H2)
  refine Gd.e q10 ?_
  by_cases q11 : q = 11
  · refine Gd.i q11 ?_
    refine Gd.i g1 ?_
    refine Gd.i g2 ?_
    obtain ⟨s1, s2, v, e1, e2, H2⟩ := step2 (A := fun c => d_x7_head N c ((xs (Int.toNat (w32 (x3 + 1)))).toInt) ((xs (Int.toNat (w32 (x3 + 2)))).toInt)) (B := fun r => d_x8_head N r ((xs (Int.toNat (w32 (x3 + 1)))).toInt) ((xs (Int.toNat (w32 (x3 + 2)))).toInt)) (fun c r h => r_head (by omega) (r32s _) (r32s _) h) H
    refine Gd.c e1 ?_
    refine Gd.i g1 ?_
    refine Gd.i g2 ?_
    refine Gd.c e2 ?_
    first | exact fin s2 H2 | exact Gd.q (fin s2 H2)
  refine Gd.e q11 ?_
  by_cases q12 : q = 12
  · refine Gd.i q12 ?_
    refine Gd.i g1 ?_
    refine Gd.i g2 ?_
    obtain ⟨s1, s2, v, e1, e2, H2⟩ := step2 (A := fun c => d_x7_need N c ((xs (Int.toNat (w32 (x3 + 1)))).toInt) ((xs (Int.toNat (w32 (x3 + 2)))).toInt)) (B := fun r => d_x8_need N r ((xs (Int.toNat (w32 (x3 + 1)))).toInt) ((xs (Int.toNat (w32 (x3 + 2)))).toInt)) (fun c r h => r_need (by omega) (r32s _) (r32s _) h) H
    refine Gd.c e1 ?_
    refine Gd.i g1 ?_
    refine Gd.i g2 ?_
    refine Gd.c e2 ?_
    first | exact fin s2 H2 | exact Gd.q (fin s2 H2)
  refine Gd.e q12 ?_
  by_cases q13 : q = 13
  · refine Gd.i q13 ?_
    refine Gd.i g1 ?_
    obtain ⟨s1, s2, v, e1, e2, H2⟩ := step2 (A := fun c => d_x7_limit N c ((xs (Int.toNat (w32 (x3 + 1)))).toInt)) (B := fun r => d_x8_limit N r ((xs (Int.toNat (w32 (x3 + 1)))).toInt)) (fun c r h => g_limit (r32s _) h) H
    refine Gd.c e1 ?_
    refine Gd.i g1 ?_
    refine Gd.c e2 ?_
    first | exact fin s2 H2 | exact Gd.q (fin s2 H2)
  refine Gd.e q13 ?_
  by_cases q14 : q = 14
  · refine Gd.i q14 ?_
    obtain ⟨s1, s2, v, e1, e2, H2⟩ := step2 (A := fun c => d_x7_forget N c ) (B := fun r => d_x8_forget N r ) (fun c r h => r_forget (by omega)  h) H
    refine Gd.c e1 ?_
    refine Gd.c e2 ?_
    first | exact fin s2 H2 | exact Gd.q (fin s2 H2)
  refine Gd.e q14 ?_
  by_cases q15 : q = 15
  · refine Gd.i q15 ?_
    refine Gd.i g1 ?_
    refine Gd.i g2 ?_
    obtain ⟨s1, s2, v, w, e1, e2, H2⟩ := step3 (A := fun c => d_x7_sum N c ((xs (Int.toNat (w32 (x3 + 1)))).toInt) ((xs (Int.toNat (w32 (x3 + 2)))).toInt)) (B := fun r => d_x8_sum N r ((xs (Int.toNat (w32 (x3 + 1)))).toInt) ((xs (Int.toNat (w32 (x3 + 2)))).toInt)) (fun c r h => r_sum (by omega) (r32s _) (r32s _) h) H
    refine Gd.c e1 ?_
    refine Gd.i g1 ?_
    refine Gd.i g2 ?_
    refine Gd.c e2 ?_
    first | exact fin s2 H2 | exact Gd.q (fin s2 H2)
  refine Gd.e q15 ?_
  by_cases q16 : q = 16
  · refine Gd.i q16 ?_
    refine Gd.i g1 ?_
    refine Gd.i g2 ?_
    refine Gd.i g3 ?_
    refine Gd.i g4 ?_
    obtain ⟨s1, s2, v, e1, e2, H2⟩ := step2 (A := fun c => d_x7_find N c ((xs (Int.toNat (w32 (x3 + 1)))).toInt) (or64 (shl64 (w32 ((xs (Int.toNat (w32 (x3 + 2)))).toInt)) 32) (and64 (w32 ((xs (Int.toNat (w32 (x3 + 3)))).toInt)) 4294967295)) ((xs (Int.toNat (w32 (x3 + 4)))).toInt)) (B := fun r => d_x8_find N r ((xs (Int.toNat (w32 (x3 + 1)))).toInt) (or64 (shl64 (w32 ((xs (Int.toNat (w32 (x3 + 2)))).toInt)) 32) (and64 (w32 ((xs (Int.toNat (w32 (x3 + 3)))).toInt)) 4294967295)) ((xs (Int.toNat (w32 (x3 + 4)))).toInt)) (fun c r h => r_find (by omega) (r32s _) (r32s _) h) H
    refine Gd.c e1 ?_
    refine Gd.i g1 ?_
    refine Gd.i g2 ?_
    refine Gd.i g3 ?_
    refine Gd.i g4 ?_
    refine Gd.c e2 ?_
    first | exact fin s2 H2 | exact Gd.q (fin s2 H2)
  refine Gd.e q16 ?_
  by_cases q17 : q = 17
  · refine Gd.i q17 ?_
    refine Gd.i g1 ?_
    refine Gd.i g2 ?_
    refine Gd.i g3 ?_
    obtain ⟨s1, s2, v, e1, e2, H2⟩ := step2 (A := fun c => d_x7_differ N c ((xs (Int.toNat (w32 (x3 + 1)))).toInt) ((xs (Int.toNat (w32 (x3 + 2)))).toInt) ((xs (Int.toNat (w32 (x3 + 3)))).toInt)) (B := fun r => d_x8_differ N r ((xs (Int.toNat (w32 (x3 + 1)))).toInt) ((xs (Int.toNat (w32 (x3 + 2)))).toInt) ((xs (Int.toNat (w32 (x3 + 3)))).toInt)) (fun c r h => r_differ (by omega) (r32s _) (r32s _) (r32s _) h) H
    refine Gd.c e1 ?_
    refine Gd.i g1 ?_
    refine Gd.i g2 ?_
    refine Gd.i g3 ?_
    refine Gd.c e2 ?_
    first | exact fin s2 H2 | exact Gd.q (fin s2 H2)
  refine Gd.e q17 ?_
  by_cases q18 : q = 18
  · refine Gd.i q18 ?_
    refine Gd.i g1 ?_
    obtain ⟨s1, s2, v, e1, e2, H2⟩ := step2 (A := fun c => d_x7_rises N c ((xs (Int.toNat (w32 (x3 + 1)))).toInt)) (B := fun r => d_x8_rises N r ((xs (Int.toNat (w32 (x3 + 1)))).toInt)) (fun c r h => r_rises (by omega) (r32s _) h) H
    refine Gd.c e1 ?_
    refine Gd.i g1 ?_
    refine Gd.c e2 ?_
    first | exact fin s2 H2 | exact Gd.q (fin s2 H2)
  refine Gd.e q18 ?_
  by_cases q19 : q = 19
  · refine Gd.i q19 ?_
    refine Gd.i g1 ?_
    refine Gd.i g2 ?_
    refine Gd.i g3 ?_
    obtain ⟨s1, s2, v, e1, e2, H2⟩ := step2 (A := fun c => d_x7_film N c ((xs (Int.toNat (w32 (x3 + 1)))).toInt) ((xs (Int.toNat (w32 (x3 + 2)))).toInt) ((xs (Int.toNat (w32 (x3 + 3)))).toInt)) (B := fun r => d_x8_film N r ((xs (Int.toNat (w32 (x3 + 1)))).toInt) ((xs (Int.toNat (w32 (x3 + 2)))).toInt) ((xs (Int.toNat (w32 (x3 + 3)))).toInt)) (fun c r h => r_film (by omega) (r32s _) (r32s _) (r32s _) h) H
    refine Gd.c e1 ?_
    refine Gd.i g1 ?_
    refine Gd.i g2 ?_
    refine Gd.i g3 ?_
    refine Gd.c e2 ?_
    first | exact fin s2 H2 | exact Gd.q (fin s2 H2)
  refine Gd.e q19 ?_
  by_cases q20 : q = 20
  · refine Gd.i q20 ?_
    refine Gd.i g1 ?_
    refine Gd.i g2 ?_
    refine Gd.i g3 ?_
    obtain ⟨s1, s2, v, e1, e2, H2⟩ := step2 (A := fun c => d_x7_tells N c ((xs (Int.toNat (w32 (x3 + 1)))).toInt) ((xs (Int.toNat (w32 (x3 + 2)))).toInt) ((xs (Int.toNat (w32 (x3 + 3)))).toInt)) (B := fun r => d_x8_tells N r ((xs (Int.toNat (w32 (x3 + 1)))).toInt) ((xs (Int.toNat (w32 (x3 + 2)))).toInt) ((xs (Int.toNat (w32 (x3 + 3)))).toInt)) (fun c r h => r_tells (by omega) (r32s _) (r32s _) (r32s _) h) H
    refine Gd.c e1 ?_
    refine Gd.i g1 ?_
    refine Gd.i g2 ?_
    refine Gd.i g3 ?_
    refine Gd.c e2 ?_
    first | exact fin s2 H2 | exact Gd.q (fin s2 H2)
  refine Gd.e q20 ?_
  by_cases q21 : q = 21
  · refine Gd.i q21 ?_
    obtain ⟨s1, s2, v, e1, e2, H2⟩ := step2 (A := fun c => d_x7_image N c ) (B := fun r => d_x8_image N r ) (fun c r h => r_image (by omega)  h) H
    refine Gd.c e1 ?_
    refine Gd.c e2 ?_
    first | exact fin s2 H2 | exact Gd.q (fin s2 H2)
  refine Gd.e q21 ?_
  by_cases q22 : q = 22
  · refine Gd.i q22 ?_
    obtain ⟨s1, s2, v, e1, e2, H2⟩ := step2 (A := fun c => d_x7_back N c ) (B := fun r => d_x8_back N r ) (fun c r h => r_back (by omega)  h) H
    refine Gd.c e1 ?_
    refine Gd.c e2 ?_
    first | exact fin s2 H2 | exact Gd.q (fin s2 H2)
  refine Gd.e q22 ?_
  by_cases q23 : q = 23
  · refine Gd.i q23 ?_
    refine Gd.i g1 ?_
    obtain ⟨s1, s2, v, e1, e2, H2⟩ := step2 (A := fun c => d_x7_count N c ((xs (Int.toNat (w32 (x3 + 1)))).toInt)) (B := fun r => d_x8_count N r ((xs (Int.toNat (w32 (x3 + 1)))).toInt)) (fun c r h => r_count (by omega) (r32s _) h) H
    refine Gd.c e1 ?_
    refine Gd.i g1 ?_
    refine Gd.c e2 ?_
    first | exact fin s2 H2 | exact Gd.q (fin s2 H2)
  refine Gd.e q23 ?_
  by_cases q24 : q = 24
  · refine Gd.i q24 ?_
    refine Gd.i g1 ?_
    refine Gd.i g2 ?_
    refine Gd.i g3 ?_
    obtain ⟨s1, s2, v, e1, e2, H2⟩ := step2 (A := fun c => d_x7_sheet N c ((xs (Int.toNat (w32 (x3 + 1)))).toInt) ((xs (Int.toNat (w32 (x3 + 2)))).toInt) ((xs (Int.toNat (w32 (x3 + 3)))).toInt)) (B := fun r => d_x8_sheet N r ((xs (Int.toNat (w32 (x3 + 1)))).toInt) ((xs (Int.toNat (w32 (x3 + 2)))).toInt) ((xs (Int.toNat (w32 (x3 + 3)))).toInt)) (fun c r h => g_sheet (by omega) (r32s _) (r32s _) (r32s _) h) H
    refine Gd.c e1 ?_
    refine Gd.i g1 ?_
    refine Gd.i g2 ?_
    refine Gd.i g3 ?_
    refine Gd.c e2 ?_
    first | exact fin s2 H2 | exact Gd.q (fin s2 H2)
  refine Gd.e q24 ?_
  by_cases q25 : q = 25
  · refine Gd.i q25 ?_
    refine Gd.i g1 ?_
    refine Gd.i g2 ?_
    refine Gd.i g3 ?_
    refine Gd.i g4 ?_
    obtain ⟨s1, s2, v, e1, e2, H2⟩ := step2 (A := fun c => d_x7_put N c ((xs (Int.toNat (w32 (x3 + 1)))).toInt) ((xs (Int.toNat (w32 (x3 + 2)))).toInt) (or64 (shl64 (w32 ((xs (Int.toNat (w32 (x3 + 3)))).toInt)) 32) (and64 (w32 ((xs (Int.toNat (w32 (x3 + 4)))).toInt)) 4294967295))) (B := fun r => d_x8_put N r ((xs (Int.toNat (w32 (x3 + 1)))).toInt) ((xs (Int.toNat (w32 (x3 + 2)))).toInt) (or64 (shl64 (w32 ((xs (Int.toNat (w32 (x3 + 3)))).toInt)) 32) (and64 (w32 ((xs (Int.toNat (w32 (x3 + 4)))).toInt)) 4294967295))) (fun c r h => g_put (r32s _) (r32s _) h) H
    refine Gd.c e1 ?_
    refine Gd.i g1 ?_
    refine Gd.i g2 ?_
    refine Gd.i g3 ?_
    refine Gd.i g4 ?_
    refine Gd.c e2 ?_
    first | exact fin s2 H2 | exact Gd.q (fin s2 H2)
  refine Gd.e q25 ?_
  by_cases q26 : q = 26
  · refine Gd.i q26 ?_
    refine Gd.i g1 ?_
    refine Gd.i g2 ?_
    obtain ⟨s1, s2, v, e1, e2, H2⟩ := step2 (A := fun c => d_x7_item N c ((xs (Int.toNat (w32 (x3 + 1)))).toInt) ((xs (Int.toNat (w32 (x3 + 2)))).toInt)) (B := fun r => d_x8_item N r ((xs (Int.toNat (w32 (x3 + 1)))).toInt) ((xs (Int.toNat (w32 (x3 + 2)))).toInt)) (fun c r h => r_item (r32s _) (r32s _) h) H
    refine Gd.c e1 ?_
    refine Gd.i g1 ?_
    refine Gd.i g2 ?_
    refine Gd.c e2 ?_
    first | exact fin s2 H2 | exact Gd.q (fin s2 H2)
  refine Gd.e q26 ?_
  by_cases q27 : q = 27
  · refine Gd.i q27 ?_
    refine Gd.i g1 ?_
    refine Gd.i g2 ?_
    refine Gd.i g3 ?_
    refine Gd.i g4 ?_
    refine Gd.i g5 ?_
    obtain ⟨s1, s2, v, e1, e2, H2⟩ := step2 (A := fun c => d_x7_copy N c ((xs (Int.toNat (w32 (x3 + 1)))).toInt) ((xs (Int.toNat (w32 (x3 + 2)))).toInt) ((xs (Int.toNat (w32 (x3 + 3)))).toInt) ((xs (Int.toNat (w32 (x3 + 4)))).toInt) ((xs (Int.toNat (w32 (x3 + 5)))).toInt)) (B := fun r => d_x8_copy N r ((xs (Int.toNat (w32 (x3 + 1)))).toInt) ((xs (Int.toNat (w32 (x3 + 2)))).toInt) ((xs (Int.toNat (w32 (x3 + 3)))).toInt) ((xs (Int.toNat (w32 (x3 + 4)))).toInt) ((xs (Int.toNat (w32 (x3 + 5)))).toInt)) (fun c r h => r_copy (by omega) (r32s _) (r32s _) (r32s _) (r32s _) (r32s _) h) H
    refine Gd.c e1 ?_
    refine Gd.i g1 ?_
    refine Gd.i g2 ?_
    refine Gd.i g3 ?_
    refine Gd.i g4 ?_
    refine Gd.i g5 ?_
    refine Gd.c e2 ?_
    first | exact fin s2 H2 | exact Gd.q (fin s2 H2)
  refine Gd.e q27 ?_
  by_cases q28 : q = 28
  · refine Gd.i q28 ?_
    refine Gd.i g1 ?_
    refine Gd.i g2 ?_
    refine Gd.i g3 ?_
    refine Gd.i g4 ?_
    refine Gd.i g5 ?_
    obtain ⟨s1, s2, v, e1, e2, H2⟩ := step2 (A := fun c => d_x7_lay N c ((xs (Int.toNat (w32 (x3 + 1)))).toInt) ((xs (Int.toNat (w32 (x3 + 2)))).toInt) ((xs (Int.toNat (w32 (x3 + 3)))).toInt) ((xs (Int.toNat (w32 (x3 + 4)))).toInt) ((xs (Int.toNat (w32 (x3 + 5)))).toInt)) (B := fun r => d_x8_lay N r ((xs (Int.toNat (w32 (x3 + 1)))).toInt) ((xs (Int.toNat (w32 (x3 + 2)))).toInt) ((xs (Int.toNat (w32 (x3 + 3)))).toInt) ((xs (Int.toNat (w32 (x3 + 4)))).toInt) ((xs (Int.toNat (w32 (x3 + 5)))).toInt)) (fun c r h => r_lay (by omega) (r32s _) (r32s _) (r32s _) (r32s _) (r32s _) h) H
    refine Gd.c e1 ?_
    refine Gd.i g1 ?_
    refine Gd.i g2 ?_
    refine Gd.i g3 ?_
    refine Gd.i g4 ?_
    refine Gd.i g5 ?_
    refine Gd.c e2 ?_
    first | exact fin s2 H2 | exact Gd.q (fin s2 H2)
  refine Gd.e q28 ?_
  exact fin s H
theorem law_end {N L m : Nat} {xs : Nat → Int32} {s : St} {x3 : Int} (hL : L ≤ 3072) (h0 : 0 ≤ x3) (h4 : x3 ≤ 4000) (h : (L : Int) < x3 + 6) (hm : 0 < m) : Gd (d_law_18L N (L, xs) m s x3) := by
  obtain ⟨m, rfl⟩ : ∃ m', m = m' + 1 := ⟨m - 1, by omega⟩
  show Gd (d_law_18 N (L, xs) (d_law_18L N (L, xs) m) s x3)
  unfold d_law_18
  refine Gd.i ?_ ⟨_, rfl, rfl⟩
  show w32 ((L : Int) - 6) < w32 x3
  rw [w32i (x := x3) (by omega) (by omega), w32i (x := (L : Int) - 6) (by omega) (by omega)]
  omega
theorem law_all {N L : Nat} {xs : Nat → Int32} (hN : 20000 ≤ N) (ht : TextR N) (hL : L ≤ 3072) : ∀ (k m : Nat) (s : St) (x3 : Int), 0 ≤ x3 → x3 ≤ 4000 → (L : Int) - x3 < k → k < m → RG s s → Gd (d_law_18L N (L, xs) m s x3) := by
  intro k
  induction k with
  | zero =>
    intro m s x3 h0 h4 hk hm H
    exact law_end hL h0 h4 (by omega) (by omega)
  | succ k ih =>
    intro m s x3 h0 h4 hk hm H
    by_cases hx : x3 + 6 ≤ L
    · obtain ⟨m, rfl⟩ : ∃ m', m = m' + 1 := ⟨m - 1, by omega⟩
      show Gd (d_law_18 N (L, xs) (d_law_18L N (L, xs) m) s x3)
      exact law_step hN ht hL ⟨h0, hx⟩ H (fun s' h => ih m s' (x3 + 6) (by omega) (by omega) (by omega) (by omega) h)
    · exact law_end hL h0 h4 (by omega) (by omega)
