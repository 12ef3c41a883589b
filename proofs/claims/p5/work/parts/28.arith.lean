theorem x_lhl {x a y : Int32} (h : x ≤ a) (h2 : a < y) : x < y := by rw [Int32.lt_iff_toInt_lt] at *; rw [Int32.le_iff_toInt_le] at h; omega
theorem x_nll {x a y : Int32} (h : a ≤ x) (h2 : y ≤ a) : ¬ x < y := by rw [Int32.lt_iff_toInt_lt]; rw [Int32.le_iff_toInt_le] at h h2; omega
theorem x_lel {x a y : Int32} (h : x ≤ a) (h2 : a ≤ y) : x ≤ y := by rw [Int32.le_iff_toInt_le] at *; omega
theorem x_nle {x a y : Int32} (h : a ≤ x) (h2 : y < a) : ¬ x ≤ y := by rw [Int32.le_iff_toInt_le] at *; rw [Int32.lt_iff_toInt_lt] at h2; omega
theorem x_llh {x a y : Int32} (h : a ≤ y) (h2 : x < a) : x < y := by rw [Int32.lt_iff_toInt_lt] at *; rw [Int32.le_iff_toInt_le] at h; omega
theorem x_nlh {x a y : Int32} (h : y ≤ a) (h2 : a ≤ x) : ¬ x < y := by rw [Int32.lt_iff_toInt_lt]; rw [Int32.le_iff_toInt_le] at h h2; omega
theorem x_leh {x a y : Int32} (h : a ≤ y) (h2 : x ≤ a) : x ≤ y := by rw [Int32.le_iff_toInt_le] at *; omega
theorem x_neh {x a y : Int32} (h : y ≤ a) (h2 : a < x) : ¬ x ≤ y := by rw [Int32.le_iff_toInt_le] at *; rw [Int32.lt_iff_toInt_lt] at h2; omega
theorem x_lt1 {x y z : Int32} (h : x < y) (h2 : z.toInt + 1 = y.toInt) : x ≤ z := by rw [Int32.lt_iff_toInt_lt] at h; rw [Int32.le_iff_toInt_le]; omega
theorem x_gt1 {x y z : Int32} (h : x < y) (h2 : x.toInt + 1 = z.toInt) : z ≤ y := by rw [Int32.lt_iff_toInt_lt] at h; rw [Int32.le_iff_toInt_le]; omega
theorem x_nel {x a y : Int32} (h : a ≤ x) (h2 : y < a) : ¬ x = y := fun z => by subst z; rw [Int32.lt_iff_toInt_lt] at h2; rw [Int32.le_iff_toInt_le] at h; omega
theorem x_neg {x a y : Int32} (h : x ≤ a) (h2 : a < y) : ¬ x = y := fun z => by subst z; rw [Int32.lt_iff_toInt_lt] at h2; rw [Int32.le_iff_toInt_le] at h; omega
theorem x_ib {j a b : Int32} {N : Nat} (h1 : a ≤ j) (h2 : j ≤ b) (ha : 0 ≤ a.toInt) (hb : b.toInt < N) : ¬ (j < 0 ∨ N ≤ j.toNatClampNeg) := by
  rw [Int32.le_iff_toInt_le] at h1 h2
  rintro (z | z)
  · rw [Int32.lt_iff_toInt_lt] at z
    have : (0 : Int32).toInt = 0 := rfl
    omega
  · have h4 : j.toNatClampNeg = j.toInt.toNat := rfl
    omega
theorem x_cl {j a b : Int32} (h1 : a ≤ j) (h2 : j ≤ b) (ha : 0 ≤ a.toInt) : ∃ n : Nat, j = nI n ∧ (n : Int) = j.toInt ∧ j.toNatClampNeg = n := by
  rw [Int32.le_iff_toInt_le] at h1 h2
  have h4 : j.toNatClampNeg = j.toInt.toNat := rfl
  have hlt : j.toInt < 2 ^ 31 := Int32.toInt_lt j
  refine ⟨j.toInt.toNat, ?_, by omega, h4⟩
  apply Int32.toInt_inj.mp
  rw [nI_toInt (by omega)]
  omega
section XRD
variable {G : xG} {sc : xS} {d M pc : Nat} {L : xL} {st : List Value} {h : xH} {Q : xR → Prop}
theorem wRem (pc' : Nat) {x y : Int32} (hi : xIns G M pc = some .irem) (hy : ¬ y = 0) (hp : pc + 1 = pc') (k : xT G sc d M pc' L (.int (x - x / y * y) :: st) h Q) : xT G sc d M pc L (.int y :: .int x :: st) h Q := wA pc' hi rfl (by simp only [xs1, hy, if_false]) hp k
theorem wDiv (pc' : Nat) {x y : Int32} (hi : xIns G M pc = some .idiv) (hy : ¬ y = 0) (hp : pc + 1 = pc') (k : xT G sc d M pc' L (.int (x / y) :: st) h Q) : xT G sc d M pc L (.int y :: .int x :: st) h Q := wA pc' hi rfl (by simp only [xs1, hy, if_false]) hp k
end XRD
section XRF
variable {G : xG} {sc : xS} {d M pc : Nat} {L : xL} {st : List Value} {h : xH} {Q : xR → Prop}
theorem upd_self {f : Nat → Int32} {j : Nat} {x : Int32} (hx : f j = x) : upd f j x = f := by
  funext q
  by_cases hq : q = j
  · subst hq; rw [pk_us, hx]
  · rw [pk_un hq]
/-- what stands there is put there once more -/
theorem wIasS (pc' : Nat) {a n : Nat} {j x : Int32} {f : Nat → Int32} (hi : xIns G M pc = some .iastore) (hc : h[a]? = some (.inl (.int, n, .inl f))) (hj : ¬ (j < 0 ∨ n ≤ j.toNatClampNeg)) (hx : f j.toNatClampNeg = x) (hp : pc + 1 = pc') (k : xT G sc d M pc' L st h Q) : xT G sc d M pc L (.int x :: .int j :: .ref a :: st) h Q := wIas pc' hi hc hj hp (by rw [upd_self hx, xset_self hc]; exact k)
theorem wPutS (pc' : Nat) {k0 a ci j : Nat} {ty : FieldType} {fs : List Value} {v : Value} (hi : xIns G M pc = some (.putfield k0)) (hf : xPut G M k0 = some (ci, j, ty)) (hc : h[a]? = some (.inr (ci, fs))) (hv : fs[j]? = some v) (hn : narrow ty v = v) (hfit : fits ty v = true) (hp : pc + 3 = pc') (k : xT G sc d M pc' L st h Q) : xT G sc d M pc L (v :: .ref a :: st) h Q := by
  have hl : j < fs.length := (List.getElem?_eq_some_iff.mp hv).1
  have e1 : fs.set j v = fs := by
    apply List.ext_getElem?
    intro i
    by_cases hi : i = j
    · subst hi; rw [List.getElem?_set_self hl, hv]
    · rw [List.getElem?_set_ne (Ne.symm hi)]
  exact wPut pc' hi hf hc hl hn hfit hp (by rw [e1, xset_self hc]; exact k)
end XRF
section XRG
variable {G : xG} {sc : xS} {d M pc : Nat} {L : xL} {st : List Value} {h : xH} {Q : xR → Prop}
theorem updL_self {f : Nat → Int64} {j : Nat} {x : Int64} (hx : f j = x) : vp_updL f j x = f := by
  funext q
  by_cases hq : q = j
  · subst hq; rw [pk_uLs, hx]
  · rw [pk_uLn hq]
theorem wLasS (pc' : Nat) {a n : Nat} {j : Int32} {x : Int64} {f : Nat → Int64} (hi : xIns G M pc = some .lastore) (hc : h[a]? = some (.inl (.long, n, .inr (.inl f)))) (hj : ¬ (j < 0 ∨ n ≤ j.toNatClampNeg)) (hx : f j.toNatClampNeg = x) (hp : pc + 1 = pc') (k : xT G sc d M pc' L st h Q) : xT G sc d M pc L (.long x :: .int j :: .ref a :: st) h Q := wLas pc' hi hc hj hp (by rw [updL_self hx, xset_self hc]; exact k)
theorem wZasS (pc' : Nat) {a n : Nat} {j x : Int32} {f : Nat → Int32} (hi : xIns G M pc = some .bastore) (hc : h[a]? = some (.inl (.boolean, n, .inl f))) (hj : ¬ (j < 0 ∨ n ≤ j.toNatClampNeg)) (hx : f j.toNatClampNeg = x &&& 1) (hp : pc + 1 = pc') (k : xT G sc d M pc' L st h Q) : xT G sc d M pc L (.int x :: .int j :: .ref a :: st) h Q := wZas pc' hi hc hj hp (by rw [upd_self hx, xset_self hc]; exact k)
end XRG
/-- a place in a row of rows -/
theorem x_ib2 {p i A B N : Nat} (a : Int32) (ha : a = nI A) (hp : p < B) (hi : i < A) (hN : A * B ≤ N) (hM : N < 2 ^ 31) : ¬ (a * nI p + nI i < 0 ∨ N ≤ (a * nI p + nI i).toNatClampNeg) := by
  subst ha
  rw [pk_mul, nI_add]
  have h1 : A * p + i < A * B := by
    have : A * (p + 1) ≤ A * B := Nat.mul_le_mul_left A hp
    rw [Nat.mul_succ] at this
    omega
  exact xinb (by omega) hM
