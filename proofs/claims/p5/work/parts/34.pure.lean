/-! numbers as Ints; a state is a table of Ints, cell by cell -/
def w8 (x : Int) : Int := Int.bmod x 256
def w32 (x : Int) : Int := Int.bmod x 4294967296
def w64 (x : Int) : Int := Int.bmod x 18446744073709551616
abbrev vi (x : Int) : Value := .int (Int32.ofInt x)
abbrev vl (x : Int) : Value := .long (Int64.ofInt x)
abbrev St : Type := Nat → Nat → Int
abbrev Rs : Type := St × Int
def bd {α β : Type} (x : α) (f : α → β) : β := f x
def up (s : St) (a j : Nat) (x : Int) : St := fun b k => if b = a ∧ k = j then x else s b k
def cp (s : St) (a0 sp a1 dp n : Nat) : St := fun b k => if b = a1 ∧ dp ≤ k ∧ k < dp + n then s a0 (sp + (k - dp)) else s b k
theorem i32w (x : Int) : (Int32.ofInt x).toInt = w32 x := Int32.toInt_ofInt
theorem i64w (x : Int) : (Int64.ofInt x).toInt = w64 x := Int64.toInt_ofInt
theorem w32w32 (x : Int) : w32 (w32 x) = w32 x := Int.bmod_bmod
theorem w64w64 (x : Int) : w64 (w64 x) = w64 x := Int.bmod_bmod
theorem ofw32 (x : Int) : Int32.ofInt (w32 x) = Int32.ofInt x := Int32.toInt_inj.mp (by rw [i32w, i32w, w32w32])
theorem ofw64 (x : Int) : Int64.ofInt (w64 x) = Int64.ofInt x := Int64.toInt_inj.mp (by rw [i64w, i64w, w64w64])
theorem w32_rng (x : Int) : -2147483648 ≤ w32 x ∧ w32 x ≤ 2147483647 := by
  unfold w32
  have h1 := Int.le_bmod (x := x) (m := 4294967296) (by decide)
  have h2 := Int.bmod_lt (x := x) (m := 4294967296) (by decide)
  omega
theorem w64_rng (x : Int) : -9223372036854775808 ≤ w64 x ∧ w64 x ≤ 9223372036854775807 := by
  unfold w64
  have h1 := Int.le_bmod (x := x) (m := 18446744073709551616) (by decide)
  have h2 := Int.bmod_lt (x := x) (m := 18446744073709551616) (by decide)
  omega
theorem w32_id {x : Int} (h : -2147483648 ≤ x ∧ x ≤ 2147483647) : w32 x = x := Int.bmod_eq_of_le (by omega) (by omega)
theorem w64_id {x : Int} (h : -9223372036854775808 ≤ x ∧ x ≤ 9223372036854775807) : w64 x = x := Int.bmod_eq_of_le (by omega) (by omega)
theorem w64w32 (x : Int) : w64 (w32 x) = w32 x := w64_id (by have := w32_rng x; omega)
theorem i32_lt {x y : Int} : Int32.ofInt x < Int32.ofInt y ↔ w32 x < w32 y := by rw [Int32.lt_iff_toInt_lt, i32w, i32w]
theorem i32_le {x y : Int} : Int32.ofInt x ≤ Int32.ofInt y ↔ w32 x ≤ w32 y := by rw [Int32.le_iff_toInt_le, i32w, i32w]
theorem i32_eq {x y : Int} : Int32.ofInt x = Int32.ofInt y ↔ w32 x = w32 y := by rw [← Int32.toInt_inj, i32w, i32w]
theorem i64_lt {x y : Int} : Int64.ofInt x < Int64.ofInt y ↔ w64 x < w64 y := by rw [Int64.lt_iff_toInt_lt, i64w, i64w]
theorem i64_eq {x y : Int} : Int64.ofInt x = Int64.ofInt y ↔ w64 x = w64 y := by rw [← Int64.toInt_inj, i64w, i64w]
theorem i32_nat (x : Int) : (Int32.ofInt x).toNatClampNeg = (w32 x).toNat := by
  show (Int32.ofInt x).toInt.toNat = _
  rw [i32w]
theorem zi32 : (0 : Int32) = Int32.ofInt 0 := rfl
theorem zi64 : (0 : Int64) = Int64.ofInt 0 := rfl
theorem w32_0 : w32 0 = 0 := rfl
theorem w64_0 : w64 0 = 0 := rfl
theorem i32_ix {j : Int} {n : Nat} (h : 0 ≤ w32 j ∧ w32 j < n) : ¬ (Int32.ofInt j < 0 ∨ n ≤ (Int32.ofInt j).toNatClampNeg) := by
  rw [i32_nat]
  rintro (z | z)
  · rw [zi32, i32_lt, w32_0] at z; omega
  · omega
theorem i32_add (x y : Int) : Int32.ofInt x + Int32.ofInt y = Int32.ofInt (x + y) := (Int32.ofInt_add x y).symm
theorem i32_sub (x y : Int) : Int32.ofInt x - Int32.ofInt y = Int32.ofInt (x - y) := (Int32.ofInt_sub x y).symm
theorem i32_mul (x y : Int) : Int32.ofInt x * Int32.ofInt y = Int32.ofInt (x * y) := (Int32.ofInt_mul x y).symm
theorem i32_neg (x : Int) : -Int32.ofInt x = Int32.ofInt (-x) := (Int32.ofInt_neg x).symm
theorem i64_add (x y : Int) : Int64.ofInt x + Int64.ofInt y = Int64.ofInt (x + y) := (Int64.ofInt_add x y).symm
theorem i64_sub (x y : Int) : Int64.ofInt x - Int64.ofInt y = Int64.ofInt (x - y) := (Int64.ofInt_sub x y).symm
theorem i64_mul (x y : Int) : Int64.ofInt x * Int64.ofInt y = Int64.ofInt (x * y) := (Int64.ofInt_mul x y).symm
theorem i64_neg (x : Int) : -Int64.ofInt x = Int64.ofInt (-x) := (Int64.ofInt_neg x).symm
theorem i32_div (x y : Int) : Int32.ofInt x / Int32.ofInt y = Int32.ofInt ((w32 x).tdiv (w32 y)) := Int32.toInt_inj.mp (by rw [Int32.toInt_div, i32w, i32w, i32w]; rfl)
theorem i64_div (x y : Int) : Int64.ofInt x / Int64.ofInt y = Int64.ofInt ((w64 x).tdiv (w64 y)) := Int64.toInt_inj.mp (by rw [Int64.toInt_div, i64w, i64w, i64w]; rfl)
theorem i32_rem (x y : Int) : Int32.ofInt x - Int32.ofInt x / Int32.ofInt y * Int32.ofInt y = Int32.ofInt ((w32 x).tmod (w32 y)) := by
  rw [i32_div, Int.tmod_def, Int32.ofInt_sub, Int32.ofInt_mul, ofw32, ofw32, Int32.mul_comm]
theorem i64_rem (x y : Int) : Int64.ofInt x - Int64.ofInt x / Int64.ofInt y * Int64.ofInt y = Int64.ofInt ((w64 x).tmod (w64 y)) := by
  rw [i64_div, Int.tmod_def, Int64.ofInt_sub, Int64.ofInt_mul, ofw64, ofw64, Int64.mul_comm]
theorem i32_to64 (x : Int) : (Int32.ofInt x).toInt64 = Int64.ofInt (w32 x) := by rw [← i32w]; exact (Int64.ofInt_int32ToInt _).symm
theorem i64_to32 (x : Int) : (Int64.ofInt x).toInt32 = Int32.ofInt x := Int64.toInt32_ofInt
theorem i32_b (x : Int) : (Int32.ofInt x).toInt8.toInt32 = Int32.ofInt (w8 x) := by
  rw [Int32.toInt8_ofInt, ← Int32.ofInt_int8ToInt, Int8.toInt_ofInt]; rfl
def and32 (x y : Int) : Int := (Int32.ofInt x &&& Int32.ofInt y).toInt
def or32 (x y : Int) : Int := (Int32.ofInt x ||| Int32.ofInt y).toInt
def shl32 (x y : Int) : Int := (Int32.ofInt x <<< (Int32.ofInt y &&& 31)).toInt
def shr32 (x y : Int) : Int := (Int32.ofInt x >>> (Int32.ofInt y &&& 31)).toInt
def and64 (x y : Int) : Int := (Int64.ofInt x &&& Int64.ofInt y).toInt
def or64 (x y : Int) : Int := (Int64.ofInt x ||| Int64.ofInt y).toInt
def shl64 (x y : Int) : Int := (Int64.ofInt x <<< ((Int32.ofInt y).toInt64 &&& 63)).toInt
def c16 (x : Int) : Int := ((Int32.ofInt x).toUInt32 % 65536).toInt32.toInt
theorem lgc_lt {x y : Int} (h : w64 x < w64 y) : lg_cmp (Int64.ofInt x) (Int64.ofInt y) = -1 := by
  unfold lg_cmp
  rw [if_neg (fun z => by have z := i64_lt.mp z; omega), if_neg (fun z => by have z := i64_eq.mp z; omega)]
theorem lgc_eq {x y : Int} (h : w64 x = w64 y) : lg_cmp (Int64.ofInt x) (Int64.ofInt y) = 0 := by
  unfold lg_cmp
  rw [if_neg (fun z => by have z := i64_lt.mp z; omega), if_pos (i64_eq.mpr h)]
theorem lgc_gt {x y : Int} (h : w64 y < w64 x) : lg_cmp (Int64.ofInt x) (Int64.ofInt y) = 1 := by
  unfold lg_cmp
  rw [if_pos (i64_lt.mpr h)]
/-! cells -/
abbrev xFk : Type := Nat ⊕ Nat
abbrev xCk : Type := (Nat × Nat) ⊕ (Nat × List xFk)
def fv (s : St) (a j : Nat) : xFk → Value
  | .inl 0 => vi (s a j)
  | .inl 1 => vl (s a j)
  | .inl _ => .ref (s a j).toNat
  | .inr r => .ref r
def fvs (s : St) (a : Nat) : Nat → List xFk → List Value
  | _, [] => []
  | j, k :: r => fv s a j k :: fvs s a (j + 1) r
def cel (s : St) (a : Nat) : xCk → xE
  | .inl (0, n) => .inl (.int, n, .inl (fun k => Int32.ofInt (s a k)))
  | .inl (1, n) => .inl (.long, n, .inr (.inl (fun k => Int64.ofInt (s a k))))
  | .inl (2, n) => .inl (.byte, n, .inl (fun k => Int32.ofInt (s a k)))
  | .inl (_, n) => .inl (.boolean, n, .inl (fun k => Int32.ofInt (s a k)))
  | .inr (c, fs) => .inr (c, fvs s a 0 fs)
def hps (s : St) : Nat → List xCk → xH
  | _, [] => []
  | a, c :: r => cel s a c :: hps s (a + 1) r
theorem fvs_get (s : St) (a : Nat) : ∀ (l : List xFk) (j0 j : Nat), (fvs s a j0 l)[j]? = (l[j]?).map (fv s a (j0 + j)) := by
  intro l
  induction l with
  | nil => intro j0 j; rfl
  | cons k r ih =>
    intro j0 j
    cases j with
    | zero => rfl
    | succ j =>
      show (fvs s a (j0 + 1) r)[j]? = _
      rw [ih, show j0 + 1 + j = j0 + (j + 1) by omega]
      rfl
theorem hps_get (s : St) : ∀ (l : List xCk) (a0 a : Nat), (hps s a0 l)[a]? = (l[a]?).map (cel s (a0 + a)) := by
  intro l
  induction l with
  | nil => intro j0 j; rfl
  | cons k r ih =>
    intro j0 j
    cases j with
    | zero => rfl
    | succ j =>
      show (hps s (j0 + 1) r)[j]? = _
      rw [ih, show j0 + 1 + j = j0 + (j + 1) by omega]
      rfl
theorem fvs_congr {s t : St} {a : Nat} (h : ∀ k, s a k = t a k) : ∀ (l : List xFk) (j : Nat), fvs s a j l = fvs t a j l := by
  intro l
  induction l with
  | nil => intro j; rfl
  | cons k r ih =>
    intro j
    have : fv s a j k = fv t a j k := by
      unfold fv
      split <;> simp only [h]
    show fv s a j k :: fvs s a (j + 1) r = fv t a j k :: fvs t a (j + 1) r
    rw [this, ih]
theorem cel_congr {s t : St} {a : Nat} (h : ∀ k, s a k = t a k) (c : xCk) : cel s a c = cel t a c := by
  have e : s a = t a := funext h
  unfold cel
  split
  · rw [e]
  · rw [e]
  · rw [e]
  · rw [e]
  · rw [fvs_congr h]
theorem up_ne {s : St} {a j b k : Nat} {x : Int} (h : b ≠ a) : up s a j x b k = s b k := if_neg (fun z => h z.1)
theorem up_same {s : St} {a j : Nat} {x : Int} : up s a j x a j = x := if_pos ⟨rfl, rfl⟩
theorem up_nj {s : St} {a j b k : Nat} {x : Int} (h : k ≠ j) : up s a j x b k = s b k := if_neg (fun z => h z.2)
theorem cp_ne {s : St} {a0 sp a1 dp n b k : Nat} (h : b ≠ a1) : cp s a0 sp a1 dp n b k = s b k := if_neg (fun z => h z.1)
theorem hps_set {s t : St} {l : List xCk} {a : Nat} {c : xCk} {e : xE} (hl : l[a]? = some c) (hne : ∀ b k, b ≠ a → t b k = s b k) (he : cel t a c = e) : (hps s 0 l).set a e = hps t 0 l := by
  subst he
  apply List.ext_getElem?
  intro i
  by_cases hi : i = a
  · subst hi
    have hlt : i < (hps s 0 l).length := by
      have h1 := hps_get s l 0 i
      rw [hl] at h1
      exact (List.getElem?_eq_some_iff.mp h1).1
    rw [List.getElem?_set_self hlt, hps_get, hl, Nat.zero_add]
    rfl
  · rw [List.getElem?_set_ne (Ne.symm hi), hps_get, hps_get]
    cases l[i]? with
    | none => rfl
    | some c' =>
      show some (cel s (0 + i) c') = some (cel t (0 + i) c')
      rw [cel_congr (fun k => (hne _ k (by omega)).symm)]
theorem fvs_set {s : St} {a j : Nat} {x : Int} {fs : List xFk} {k : xFk} {v : Value} (hj : fs[j]? = some k) (hv : fv (up s a j x) a j k = v) : fvs (up s a j x) a 0 fs = (fvs s a 0 fs).set j v := by
  apply List.ext_getElem?
  intro i
  by_cases hi : i = j
  · subst hi
    have hlt : i < (fvs s a 0 fs).length := by
      have h1 := fvs_get s a fs 0 i
      rw [hj] at h1
      exact (List.getElem?_eq_some_iff.mp h1).1
    rw [List.getElem?_set_self hlt, fvs_get, hj, Nat.zero_add, ← hv]
    rfl
  · rw [List.getElem?_set_ne (Ne.symm hi), fvs_get, fvs_get]
    cases fs[i]? with
    | none => rfl
    | some c' =>
      show some (fv _ _ _ c') = some (fv _ _ _ c')
      have e : up s a j x a (0 + i) = s a (0 + i) := up_nj (by omega)
      unfold fv
      split <;> simp only [e]
theorem cel_up0 {s : St} {a j n : Nat} {x : Int} : cel (up s a j x) a (.inl (0, n)) = .inl (.int, n, .inl (upd (fun k => Int32.ofInt (s a k)) j (Int32.ofInt x))) := by
  unfold cel
  have : (fun k => Int32.ofInt (up s a j x a k)) = upd (fun k => Int32.ofInt (s a k)) j (Int32.ofInt x) := by
    funext k
    unfold upd
    by_cases hk : k = j
    · subst hk; rw [if_pos rfl, up_same]
    · rw [if_neg hk, up_nj hk]
  rw [this]
  rfl
theorem cel_up1 {s : St} {a j n : Nat} {x : Int} : cel (up s a j x) a (.inl (1, n)) = .inl (.long, n, .inr (.inl (vp_updL (fun k => Int64.ofInt (s a k)) j (Int64.ofInt x)))) := by
  unfold cel
  have : (fun k => Int64.ofInt (up s a j x a k)) = vp_updL (fun k => Int64.ofInt (s a k)) j (Int64.ofInt x) := by
    funext k
    unfold vp_updL
    by_cases hk : k = j
    · subst hk; rw [if_pos rfl, up_same]
    · rw [if_neg hk, up_nj hk]
  rw [this]
  rfl
theorem cel_up2 {s : St} {a j n : Nat} {x : Int} : cel (up s a j x) a (.inl (2, n)) = .inl (.byte, n, .inl (upd (fun k => Int32.ofInt (s a k)) j (Int32.ofInt x))) := by
  unfold cel
  have : (fun k => Int32.ofInt (up s a j x a k)) = upd (fun k => Int32.ofInt (s a k)) j (Int32.ofInt x) := by
    funext k
    unfold upd
    by_cases hk : k = j
    · subst hk; rw [if_pos rfl, up_same]
    · rw [if_neg hk, up_nj hk]
  rw [this]
  rfl
theorem cel_up3 {s : St} {a j n : Nat} {x : Int} : cel (up s a j x) a (.inl (3, n)) = .inl (.boolean, n, .inl (upd (fun k => Int32.ofInt (s a k)) j (Int32.ofInt x))) := by
  unfold cel
  have : (fun k => Int32.ofInt (up s a j x a k)) = upd (fun k => Int32.ofInt (s a k)) j (Int32.ofInt x) := by
    funext k
    unfold upd
    by_cases hk : k = j
    · subst hk; rw [if_pos rfl, up_same]
    · rw [if_neg hk, up_nj hk]
  rw [this]
  rfl
theorem cp_fun {α : Type} (f : Int → α) {s : St} {a0 sp a1 dp n : Nat} : (fun k => f (cp s a0 sp a1 dp n a1 k)) = va_cpy (fun k => f (s a0 k)) (fun k => f (s a1 k)) sp dp n := by
  funext k
  unfold va_cpy cp
  by_cases hk : dp ≤ k ∧ k < dp + n
  · rw [if_pos hk, if_pos ⟨rfl, hk⟩]
  · rw [if_neg hk, if_neg (fun z => hk z.2)]
