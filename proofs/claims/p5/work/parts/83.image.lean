def Ex1 (A : Option Rs) (F : St → Option Rs) (P : St → Prop) : Prop := ∃ d, A = F d ∧ P d
theorem Ex1.i {p : Prop} [Decidable p] {A A' : Option Rs} {F : St → Option Rs} {P : St → Prop} (h : p) (k : Ex1 A F P) : Ex1 (if p then A else A') F P := by rw [if_pos h]; exact k
theorem Ex1.e {p : Prop} [Decidable p] {A A' : Option Rs} {F : St → Option Rs} {P : St → Prop} (h : ¬ p) (k : Ex1 A' F P) : Ex1 (if p then A else A') F P := by rw [if_neg h]; exact k
theorem Ex1.bd {α : Type} {x : α} {f : α → Option Rs} {F : St → Option Rs} {P : St → Prop} (k : Ex1 (f x) F P) : Ex1 (bd x f) F P := k
theorem e_im2 {N : Nat} (r : St) : ∀ (k m : Nat) (d : St) (p : Nat), p + k = 8 → k < m → (∀ q, q < p → d 111 q = r 78 q) → (∀ a k, (a ≠ 111) → d a k = r a k) → Ex1 (d_x8_image_2L N m d (p : Int)) (fun d' => d_x8_image_28L N N d' 0) (fun d' => (∀ q, q < 8 → d' 111 q = r 78 q) ∧ (∀ a k, (a ≠ 111) → d' a k = r a k)) := by
  intro k
  induction k with
  | zero =>
    intro m d p hp hm h1 h2
    obtain ⟨m, rfl⟩ : ∃ m', m = m' + 1 := ⟨m - 1, by omega⟩
    refine ⟨d, ?_, fun q hq => h1 q (by omega), h2⟩
    show d_x8_image_2 N (d_x8_image_2L N m) d p = _
    unfold d_x8_image_2
    rw [w32i (x := (p : Int)) (by omega) (by omega), if_neg (by omega)]
    try rfl
  | succ k ih =>
    intro m d p hp hm h1 h2
    obtain ⟨m, rfl⟩ : ∃ m', m = m' + 1 := ⟨m - 1, by omega⟩
    show Ex1 (d_x8_image_2 N (d_x8_image_2L N m) d p) _ _
    unfold d_x8_image_2
    (repeat (first | with_reducible refine Ex1.bd ?_ | (with_reducible refine Ex1.i ?_ ?_; · ((try simp (disch := omega) only [w32i, Int.toNat_natCast]) <;> omega)) | (with_reducible refine Ex1.e ?_ ?_; · ((try simp (disch := omega) only [w32i, Int.toNat_natCast]) <;> omega))))
    rw [w32i (x := (p : Int)) (by omega) (by omega), Int.toNat_natCast]
    refine ih m _ (p + 1) (by omega) (by omega) (fun q hq => ?_) (fun a k z => ?_)
    · by_cases e : q = p
      · subst e
        simp (disch := omega) only [up_ne, up_same]
        exact h2 _ _ (by omega)
      · simp (disch := omega) only [up_ne, up_nj]
        exact h1 q (by omega)
    · simp (disch := omega) only [up_ne]
      exact h2 a k z
theorem e_im28 {N : Nat} (r : St) : ∀ (k m : Nat) (d : St) (p : Nat), p + k = 192 → k < m → (∀ q, q < p → d 112 q = r 79 q ∧ d 113 q = r 80 q ∧ d 114 q = r 81 q ∧ d 115 q = r 82 q ∧ d 116 q = r 83 q ∧ d 117 q = r 84 q ∧ d 119 q = r 86 q ∧ d 120 q = r 87 q ∧ d 121 q = r 89 q ∧ d 122 q = r 90 q) → (∀ a k, (a ≠ 112 ∧ a ≠ 113 ∧ a ≠ 114 ∧ a ≠ 115 ∧ a ≠ 116 ∧ a ≠ 117 ∧ a ≠ 119 ∧ a ≠ 120 ∧ a ≠ 121 ∧ a ≠ 122) → d a k = r a k) → Ex1 (d_x8_image_28L N m d (p : Int)) (fun d' => d_x8_image_163L N N d' 0) (fun d' => (∀ q, q < 192 → d' 112 q = r 79 q ∧ d' 113 q = r 80 q ∧ d' 114 q = r 81 q ∧ d' 115 q = r 82 q ∧ d' 116 q = r 83 q ∧ d' 117 q = r 84 q ∧ d' 119 q = r 86 q ∧ d' 120 q = r 87 q ∧ d' 121 q = r 89 q ∧ d' 122 q = r 90 q) ∧ (∀ a k, (a ≠ 112 ∧ a ≠ 113 ∧ a ≠ 114 ∧ a ≠ 115 ∧ a ≠ 116 ∧ a ≠ 117 ∧ a ≠ 119 ∧ a ≠ 120 ∧ a ≠ 121 ∧ a ≠ 122) → d' a k = r a k)) := by
  intro k
  induction k with
  | zero =>
    intro m d p hp hm h1 h2
    obtain ⟨m, rfl⟩ : ∃ m', m = m' + 1 := ⟨m - 1, by omega⟩
    refine ⟨d, ?_, fun q hq => h1 q (by omega), h2⟩
    show d_x8_image_28 N (d_x8_image_28L N m) d p = _
    unfold d_x8_image_28
    rw [w32i (x := (p : Int)) (by omega) (by omega), if_neg (by omega)]
    try rfl
  | succ k ih =>
    intro m d p hp hm h1 h2
    obtain ⟨m, rfl⟩ : ∃ m', m = m' + 1 := ⟨m - 1, by omega⟩
    show Ex1 (d_x8_image_28 N (d_x8_image_28L N m) d p) _ _
    unfold d_x8_image_28
    (repeat (first | with_reducible refine Ex1.bd ?_ | (with_reducible refine Ex1.i ?_ ?_; · ((try simp (disch := omega) only [w32i, Int.toNat_natCast]) <;> omega)) | (with_reducible refine Ex1.e ?_ ?_; · ((try simp (disch := omega) only [w32i, Int.toNat_natCast]) <;> omega))))
    rw [w32i (x := (p : Int)) (by omega) (by omega), Int.toNat_natCast]
    refine ih m _ (p + 1) (by omega) (by omega) (fun q hq => ?_) (fun a k z => ?_)
    · by_cases e : q = p
      · subst e
        simp (disch := omega) only [up_ne, up_same]
        exact ⟨h2 _ _ (by omega), h2 _ _ (by omega), h2 _ _ (by omega), h2 _ _ (by omega), h2 _ _ (by omega), h2 _ _ (by omega), h2 _ _ (by omega), h2 _ _ (by omega), h2 _ _ (by omega), h2 _ _ (by omega)⟩
      · simp (disch := omega) only [up_ne, up_nj]
        exact h1 q (by omega)
    · simp (disch := omega) only [up_ne]
      exact h2 a k z
theorem e_im163 {N : Nat} (r : St) : ∀ (k m : Nat) (d : St) (p : Nat), p + k = 1536 → k < m → (∀ q, q < p → d 118 q = r 85 q) → (∀ a k, (a ≠ 118) → d a k = r a k) → Ex1 (d_x8_image_163L N m d (p : Int)) (fun d' => d_x8_image_190L N N d' 0) (fun d' => (∀ q, q < 1536 → d' 118 q = r 85 q) ∧ (∀ a k, (a ≠ 118) → d' a k = r a k)) := by
  intro k
  induction k with
  | zero =>
    intro m d p hp hm h1 h2
    obtain ⟨m, rfl⟩ : ∃ m', m = m' + 1 := ⟨m - 1, by omega⟩
    refine ⟨d, ?_, fun q hq => h1 q (by omega), h2⟩
    show d_x8_image_163 N (d_x8_image_163L N m) d p = _
    unfold d_x8_image_163
    rw [w32i (x := (p : Int)) (by omega) (by omega), if_neg (by omega)]
    try rfl
  | succ k ih =>
    intro m d p hp hm h1 h2
    obtain ⟨m, rfl⟩ : ∃ m', m = m' + 1 := ⟨m - 1, by omega⟩
    show Ex1 (d_x8_image_163 N (d_x8_image_163L N m) d p) _ _
    unfold d_x8_image_163
    (repeat (first | with_reducible refine Ex1.bd ?_ | (with_reducible refine Ex1.i ?_ ?_; · ((try simp (disch := omega) only [w32i, Int.toNat_natCast]) <;> omega)) | (with_reducible refine Ex1.e ?_ ?_; · ((try simp (disch := omega) only [w32i, Int.toNat_natCast]) <;> omega))))
    rw [w32i (x := (p : Int)) (by omega) (by omega), Int.toNat_natCast]
    refine ih m _ (p + 1) (by omega) (by omega) (fun q hq => ?_) (fun a k z => ?_)
    · by_cases e : q = p
      · subst e
        simp (disch := omega) only [up_ne, up_same]
        exact h2 _ _ (by omega)
      · simp (disch := omega) only [up_ne, up_nj]
        exact h1 q (by omega)
    · simp (disch := omega) only [up_ne]
      exact h2 a k z
theorem e_im190 {N : Nat} (r : St) : ∀ (k m : Nat) (d : St) (p : Nat), p + k = 12288 → k < m → (∀ q, q < p → d 123 q = r 91 q ∧ d 124 q = r 92 q ∧ d 125 q = r 93 q) → (∀ a k, (a ≠ 123 ∧ a ≠ 124 ∧ a ≠ 125) → d a k = r a k) → Ex1 (d_x8_image_190L N m d (p : Int)) (fun d' => (bI (d_x8_full N (up (up d' 77 63 (d' 77 9)) 77 64 1)) fun s3 v4 => some (s3, v4))) (fun d' => (∀ q, q < 12288 → d' 123 q = r 91 q ∧ d' 124 q = r 92 q ∧ d' 125 q = r 93 q) ∧ (∀ a k, (a ≠ 123 ∧ a ≠ 124 ∧ a ≠ 125) → d' a k = r a k)) := by
  intro k
  induction k with
  | zero =>
    intro m d p hp hm h1 h2
    obtain ⟨m, rfl⟩ : ∃ m', m = m' + 1 := ⟨m - 1, by omega⟩
    refine ⟨d, ?_, fun q hq => h1 q (by omega), h2⟩
    show d_x8_image_190 N (d_x8_image_190L N m) d p = _
    unfold d_x8_image_190
    rw [w32i (x := (p : Int)) (by omega) (by omega), if_neg (by omega)]
    try rfl
  | succ k ih =>
    intro m d p hp hm h1 h2
    obtain ⟨m, rfl⟩ : ∃ m', m = m' + 1 := ⟨m - 1, by omega⟩
    show Ex1 (d_x8_image_190 N (d_x8_image_190L N m) d p) _ _
    unfold d_x8_image_190
    (repeat (first | with_reducible refine Ex1.bd ?_ | (with_reducible refine Ex1.i ?_ ?_; · ((try simp (disch := omega) only [w32i, Int.toNat_natCast]) <;> omega)) | (with_reducible refine Ex1.e ?_ ?_; · ((try simp (disch := omega) only [w32i, Int.toNat_natCast]) <;> omega))))
    rw [w32i (x := (p : Int)) (by omega) (by omega), Int.toNat_natCast]
    refine ih m _ (p + 1) (by omega) (by omega) (fun q hq => ?_) (fun a k z => ?_)
    · by_cases e : q = p
      · subst e
        simp (disch := omega) only [up_ne, up_same]
        exact ⟨h2 _ _ (by omega), h2 _ _ (by omega), h2 _ _ (by omega)⟩
      · simp (disch := omega) only [up_ne, up_nj]
        exact h1 q (by omega)
    · simp (disch := omega) only [up_ne]
      exact h2 a k z
theorem e_bk12 {N : Nat} (r : St) : ∀ (k m : Nat) (d : St) (p : Nat), p + k = 8 → k < m → (∀ q, q < p → d 78 q = r 111 q) → (∀ a k, (a ≠ 78) → d a k = r a k) → Ex1 (d_x8_back_12L N m d (p : Int)) (fun d' => d_x8_back_38L N N d' 0) (fun d' => (∀ q, q < 8 → d' 78 q = r 111 q) ∧ (∀ a k, (a ≠ 78) → d' a k = r a k)) := by
  intro k
  induction k with
  | zero =>
    intro m d p hp hm h1 h2
    obtain ⟨m, rfl⟩ : ∃ m', m = m' + 1 := ⟨m - 1, by omega⟩
    refine ⟨d, ?_, fun q hq => h1 q (by omega), h2⟩
    show d_x8_back_12 N (d_x8_back_12L N m) d p = _
    unfold d_x8_back_12
    rw [w32i (x := (p : Int)) (by omega) (by omega), if_neg (by omega)]
    try rfl
  | succ k ih =>
    intro m d p hp hm h1 h2
    obtain ⟨m, rfl⟩ : ∃ m', m = m' + 1 := ⟨m - 1, by omega⟩
    show Ex1 (d_x8_back_12 N (d_x8_back_12L N m) d p) _ _
    unfold d_x8_back_12
    (repeat (first | with_reducible refine Ex1.bd ?_ | (with_reducible refine Ex1.i ?_ ?_; · ((try simp (disch := omega) only [w32i, Int.toNat_natCast]) <;> omega)) | (with_reducible refine Ex1.e ?_ ?_; · ((try simp (disch := omega) only [w32i, Int.toNat_natCast]) <;> omega))))
    rw [w32i (x := (p : Int)) (by omega) (by omega), Int.toNat_natCast]
    refine ih m _ (p + 1) (by omega) (by omega) (fun q hq => ?_) (fun a k z => ?_)
    · by_cases e : q = p
      · subst e
        simp (disch := omega) only [up_ne, up_same]
        exact h2 _ _ (by omega)
      · simp (disch := omega) only [up_ne, up_nj]
        exact h1 q (by omega)
    · simp (disch := omega) only [up_ne]
      exact h2 a k z
theorem e_bk38 {N : Nat} (r : St) : ∀ (k m : Nat) (d : St) (p : Nat), p + k = 192 → k < m → (∀ q, q < p → d 79 q = r 112 q ∧ d 80 q = r 113 q ∧ d 81 q = r 114 q ∧ d 82 q = r 115 q ∧ d 83 q = r 116 q ∧ d 84 q = r 117 q ∧ d 86 q = r 119 q ∧ d 87 q = r 120 q ∧ d 89 q = r 121 q ∧ d 90 q = r 122 q) → (∀ a k, (a ≠ 79 ∧ a ≠ 80 ∧ a ≠ 81 ∧ a ≠ 82 ∧ a ≠ 83 ∧ a ≠ 84 ∧ a ≠ 86 ∧ a ≠ 87 ∧ a ≠ 89 ∧ a ≠ 90) → d a k = r a k) → Ex1 (d_x8_back_38L N m d (p : Int)) (fun d' => d_x8_back_173L N N d' 0) (fun d' => (∀ q, q < 192 → d' 79 q = r 112 q ∧ d' 80 q = r 113 q ∧ d' 81 q = r 114 q ∧ d' 82 q = r 115 q ∧ d' 83 q = r 116 q ∧ d' 84 q = r 117 q ∧ d' 86 q = r 119 q ∧ d' 87 q = r 120 q ∧ d' 89 q = r 121 q ∧ d' 90 q = r 122 q) ∧ (∀ a k, (a ≠ 79 ∧ a ≠ 80 ∧ a ≠ 81 ∧ a ≠ 82 ∧ a ≠ 83 ∧ a ≠ 84 ∧ a ≠ 86 ∧ a ≠ 87 ∧ a ≠ 89 ∧ a ≠ 90) → d' a k = r a k)) := by
  intro k
  induction k with
  | zero =>
    intro m d p hp hm h1 h2
    obtain ⟨m, rfl⟩ : ∃ m', m = m' + 1 := ⟨m - 1, by omega⟩
    refine ⟨d, ?_, fun q hq => h1 q (by omega), h2⟩
    show d_x8_back_38 N (d_x8_back_38L N m) d p = _
    unfold d_x8_back_38
    rw [w32i (x := (p : Int)) (by omega) (by omega), if_neg (by omega)]
    try rfl
  | succ k ih =>
    intro m d p hp hm h1 h2
    obtain ⟨m, rfl⟩ : ∃ m', m = m' + 1 := ⟨m - 1, by omega⟩
    show Ex1 (d_x8_back_38 N (d_x8_back_38L N m) d p) _ _
    unfold d_x8_back_38
    (repeat (first | with_reducible refine Ex1.bd ?_ | (with_reducible refine Ex1.i ?_ ?_; · ((try simp (disch := omega) only [w32i, Int.toNat_natCast]) <;> omega)) | (with_reducible refine Ex1.e ?_ ?_; · ((try simp (disch := omega) only [w32i, Int.toNat_natCast]) <;> omega))))
    rw [w32i (x := (p : Int)) (by omega) (by omega), Int.toNat_natCast]
    refine ih m _ (p + 1) (by omega) (by omega) (fun q hq => ?_) (fun a k z => ?_)
    · by_cases e : q = p
      · subst e
        simp (disch := omega) only [up_ne, up_same]
        exact ⟨h2 _ _ (by omega), h2 _ _ (by omega), h2 _ _ (by omega), h2 _ _ (by omega), h2 _ _ (by omega), h2 _ _ (by omega), h2 _ _ (by omega), h2 _ _ (by omega), h2 _ _ (by omega), h2 _ _ (by omega)⟩
      · simp (disch := omega) only [up_ne, up_nj]
        exact h1 q (by omega)
    · simp (disch := omega) only [up_ne]
      exact h2 a k z
theorem e_bk173 {N : Nat} (r : St) : ∀ (k m : Nat) (d : St) (p : Nat), p + k = 1536 → k < m → (∀ q, q < p → d 85 q = r 118 q) → (∀ a k, (a ≠ 85) → d a k = r a k) → Ex1 (d_x8_back_173L N m d (p : Int)) (fun d' => d_x8_back_200L N N d' 0) (fun d' => (∀ q, q < 1536 → d' 85 q = r 118 q) ∧ (∀ a k, (a ≠ 85) → d' a k = r a k)) := by
  intro k
  induction k with
  | zero =>
    intro m d p hp hm h1 h2
    obtain ⟨m, rfl⟩ : ∃ m', m = m' + 1 := ⟨m - 1, by omega⟩
    refine ⟨d, ?_, fun q hq => h1 q (by omega), h2⟩
    show d_x8_back_173 N (d_x8_back_173L N m) d p = _
    unfold d_x8_back_173
    rw [w32i (x := (p : Int)) (by omega) (by omega), if_neg (by omega)]
    try rfl
  | succ k ih =>
    intro m d p hp hm h1 h2
    obtain ⟨m, rfl⟩ : ∃ m', m = m' + 1 := ⟨m - 1, by omega⟩
    show Ex1 (d_x8_back_173 N (d_x8_back_173L N m) d p) _ _
    unfold d_x8_back_173
    (repeat (first | with_reducible refine Ex1.bd ?_ | (with_reducible refine Ex1.i ?_ ?_; · ((try simp (disch := omega) only [w32i, Int.toNat_natCast]) <;> omega)) | (with_reducible refine Ex1.e ?_ ?_; · ((try simp (disch := omega) only [w32i, Int.toNat_natCast]) <;> omega))))
    rw [w32i (x := (p : Int)) (by omega) (by omega), Int.toNat_natCast]
    refine ih m _ (p + 1) (by omega) (by omega) (fun q hq => ?_) (fun a k z => ?_)
    · by_cases e : q = p
      · subst e
        simp (disch := omega) only [up_ne, up_same]
        exact h2 _ _ (by omega)
      · simp (disch := omega) only [up_ne, up_nj]
        exact h1 q (by omega)
    · simp (disch := omega) only [up_ne]
      exact h2 a k z
theorem e_bk200 {N : Nat} (r : St) : ∀ (k m : Nat) (d : St) (p : Nat), p + k = 12288 → k < m → (∀ q, q < p → d 91 q = r 123 q ∧ d 92 q = r 124 q ∧ d 93 q = r 125 q) → (∀ a k, (a ≠ 91 ∧ a ≠ 92 ∧ a ≠ 93) → d a k = r a k) → Ex1 (d_x8_back_200L N m d (p : Int)) (fun d' => (bI (d_x8_full N (up d' 77 9 (d' 77 63))) fun s2 v3 => some (s2, v3))) (fun d' => (∀ q, q < 12288 → d' 91 q = r 123 q ∧ d' 92 q = r 124 q ∧ d' 93 q = r 125 q) ∧ (∀ a k, (a ≠ 91 ∧ a ≠ 92 ∧ a ≠ 93) → d' a k = r a k)) := by
  intro k
  induction k with
  | zero =>
    intro m d p hp hm h1 h2
    obtain ⟨m, rfl⟩ : ∃ m', m = m' + 1 := ⟨m - 1, by omega⟩
    refine ⟨d, ?_, fun q hq => h1 q (by omega), h2⟩
    show d_x8_back_200 N (d_x8_back_200L N m) d p = _
    unfold d_x8_back_200
    rw [w32i (x := (p : Int)) (by omega) (by omega), if_neg (by omega)]
    try rfl
  | succ k ih =>
    intro m d p hp hm h1 h2
    obtain ⟨m, rfl⟩ : ∃ m', m = m' + 1 := ⟨m - 1, by omega⟩
    show Ex1 (d_x8_back_200 N (d_x8_back_200L N m) d p) _ _
    unfold d_x8_back_200
    (repeat (first | with_reducible refine Ex1.bd ?_ | (with_reducible refine Ex1.i ?_ ?_; · ((try simp (disch := omega) only [w32i, Int.toNat_natCast]) <;> omega)) | (with_reducible refine Ex1.e ?_ ?_; · ((try simp (disch := omega) only [w32i, Int.toNat_natCast]) <;> omega))))
    rw [w32i (x := (p : Int)) (by omega) (by omega), Int.toNat_natCast]
    refine ih m _ (p + 1) (by omega) (by omega) (fun q hq => ?_) (fun a k z => ?_)
    · by_cases e : q = p
      · subst e
        simp (disch := omega) only [up_ne, up_same]
        exact ⟨h2 _ _ (by omega), h2 _ _ (by omega), h2 _ _ (by omega)⟩
      · simp (disch := omega) only [up_ne, up_nj]
        exact h1 q (by omega)
    · simp (disch := omega) only [up_ne]
      exact h2 a k z
