section
/-! numbers as Ints; a state is a table of Ints, cell by cell -/
def w8 (x : Int) : Int := Int.bmod x 256
def w32 (x : Int) : Int := Int.bmod x 4294967296
def w64 (x : Int) : Int := Int.bmod x 18446744073709551616
abbrev vi (x : Int) : Value := .int (Int32.ofInt x)
abbrev vl (x : Int) : Value := .long (Int64.ofInt x)
abbrev St : Type := Nat → Nat → Int
abbrev Rs : Type := St × Int
def bd {α β : Type} (x : α) (f : α → β) : β := f x
def up (s : St) (a j : Nat) (x : Int) : St := fun b k => if b = a ∧ k = j then x else s b k
def cp (s : St) (a0 sp a1 dp n : Nat) : St := fun b k => if b = a1 ∧ dp ≤ k ∧ k < dp + n then s a0 (sp + (k - dp)) else s b k
theorem i32w (x : Int) : (Int32.ofInt x).toInt = w32 x := Int32.toInt_ofInt
theorem i64w (x : Int) : (Int64.ofInt x).toInt = w64 x := Int64.toInt_ofInt
theorem w32w32 (x : Int) : w32 (w32 x) = w32 x := Int.bmod_bmod
theorem w64w64 (x : Int) : w64 (w64 x) = w64 x := Int.bmod_bmod
theorem ofw32 (x : Int) : Int32.ofInt (w32 x) = Int32.ofInt x := Int32.toInt_inj.mp (by rw [i32w, i32w, w32w32])
theorem ofw64 (x : Int) : Int64.ofInt (w64 x) = Int64.ofInt x := Int64.toInt_inj.mp (by rw [i64w, i64w, w64w64])
theorem w32_rng (x : Int) : -2147483648 ≤ w32 x ∧ w32 x ≤ 2147483647 := by
  unfold w32
  have h1 := Int.le_bmod (x := x) (m := 4294967296) (by decide)
  have h2 := Int.bmod_lt (x := x) (m := 4294967296) (by decide)
  omega
theorem w64_rng (x : Int) : -9223372036854775808 ≤ w64 x ∧ w64 x ≤ 9223372036854775807 := by
  unfold w64
  have h1 := Int.le_bmod (x := x) (m := 18446744073709551616) (by decide)
  have h2 := Int.bmod_lt (x := x) (m := 18446744073709551616) (by decide)
  omega
theorem w32_id {x : Int} (h : -2147483648 ≤ x ∧ x ≤ 2147483647) : w32 x = x := Int.bmod_eq_of_le (by omega) (by omega)
theorem w64_id {x : Int} (h : -9223372036854775808 ≤ x ∧ x ≤ 9223372036854775807) : w64 x = x := Int.bmod_eq_of_le (by omega) (by omega)
theorem w64w32 (x : Int) : w64 (w32 x) = w32 x := w64_id (by have := w32_rng x; omega)
theorem i32_lt {x y : Int} : Int32.ofInt x < Int32.ofInt y ↔ w32 x < w32 y := by rw [Int32.lt_iff_toInt_lt, i32w, i32w]
theorem i32_le {x y : Int} : Int32.ofInt x ≤ Int32.ofInt y ↔ w32 x ≤ w32 y := by rw [Int32.le_iff_toInt_le, i32w, i32w]
theorem i32_eq {x y : Int} : Int32.ofInt x = Int32.ofInt y ↔ w32 x = w32 y := by rw [← Int32.toInt_inj, i32w, i32w]
theorem i64_lt {x y : Int} : Int64.ofInt x < Int64.ofInt y ↔ w64 x < w64 y := by rw [Int64.lt_iff_toInt_lt, i64w, i64w]
theorem i64_eq {x y : Int} : Int64.ofInt x = Int64.ofInt y ↔ w64 x = w64 y := by rw [← Int64.toInt_inj, i64w, i64w]
theorem i32_nat (x : Int) : (Int32.ofInt x).toNatClampNeg = (w32 x).toNat := by
  show (Int32.ofInt x).toInt.toNat = _
  rw [i32w]
theorem zi32 : (0 : Int32) = Int32.ofInt 0 := rfl
theorem zi64 : (0 : Int64) = Int64.ofInt 0 := rfl
theorem w32_0 : w32 0 = 0 := rfl
theorem w64_0 : w64 0 = 0 := rfl
theorem i32_ix {j : Int} {n : Nat} (h : 0 ≤ w32 j ∧ w32 j < n) : ¬ (Int32.ofInt j < 0 ∨ n ≤ (Int32.ofInt j).toNatClampNeg) := by
  rw [i32_nat]
  rintro (z | z)
  · rw [zi32, i32_lt, w32_0] at z; omega
  · omega
theorem i32_add (x y : Int) : Int32.ofInt x + Int32.ofInt y = Int32.ofInt (x + y) := (Int32.ofInt_add x y).symm
theorem i32_sub (x y : Int) : Int32.ofInt x - Int32.ofInt y = Int32.ofInt (x - y) := (Int32.ofInt_sub x y).symm
theorem i32_mul (x y : Int) : Int32.ofInt x * Int32.ofInt y = Int32.ofInt (x * y) := (Int32.ofInt_mul x y).symm
theorem i32_neg (x : Int) : -Int32.ofInt x = Int32.ofInt (-x) := (Int32.ofInt_neg x).symm
theorem i64_add (x y : Int) : Int64.ofInt x + Int64.ofInt y = Int64.ofInt (x + y) := (Int64.ofInt_add x y).symm
theorem i64_sub (x y : Int) : Int64.ofInt x - Int64.ofInt y = Int64.ofInt (x - y) := (Int64.ofInt_sub x y).symm
theorem i64_mul (x y : Int) : Int64.ofInt x * Int64.ofInt y = Int64.ofInt (x * y) := (Int64.ofInt_mul x y).symm
theorem i64_neg (x : Int) : -Int64.ofInt x = Int64.ofInt (-x) := (Int64.ofInt_neg x).symm
theorem i32_div (x y : Int) : Int32.ofInt x / Int32.ofInt y = Int32.ofInt ((w32 x).tdiv (w32 y)) := Int32.toInt_inj.mp (by rw [Int32.toInt_div, i32w, i32w, i32w]; rfl)
theorem i64_div (x y : Int) : Int64.ofInt x / Int64.ofInt y = Int64.ofInt ((w64 x).tdiv (w64 y)) := Int64.toInt_inj.mp (by rw [Int64.toInt_div, i64w, i64w, i64w]; rfl)
theorem i32_rem (x y : Int) : Int32.ofInt x - Int32.ofInt x / Int32.ofInt y * Int32.ofInt y = Int32.ofInt ((w32 x).tmod (w32 y)) := by
  rw [i32_div, Int.tmod_def, Int32.ofInt_sub, Int32.ofInt_mul, ofw32, ofw32, Int32.mul_comm]
theorem i64_rem (x y : Int) : Int64.ofInt x - Int64.ofInt x / Int64.ofInt y * Int64.ofInt y = Int64.ofInt ((w64 x).tmod (w64 y)) := by
  rw [i64_div, Int.tmod_def, Int64.ofInt_sub, Int64.ofInt_mul, ofw64, ofw64, Int64.mul_comm]
theorem i32_to64 (x : Int) : (Int32.ofInt x).toInt64 = Int64.ofInt (w32 x) := by rw [← i32w]; exact (Int64.ofInt_int32ToInt _).symm
theorem i64_to32 (x : Int) : (Int64.ofInt x).toInt32 = Int32.ofInt x := Int64.toInt32_ofInt
theorem i32_b (x : Int) : (Int32.ofInt x).toInt8.toInt32 = Int32.ofInt (w8 x) := by
  rw [Int32.toInt8_ofInt, ← Int32.ofInt_int8ToInt, Int8.toInt_ofInt]; rfl
def and32 (x y : Int) : Int := (Int32.ofInt x &&& Int32.ofInt y).toInt
def or32 (x y : Int) : Int := (Int32.ofInt x ||| Int32.ofInt y).toInt
def shl32 (x y : Int) : Int := (Int32.ofInt x <<< (Int32.ofInt y &&& 31)).toInt
def shr32 (x y : Int) : Int := (Int32.ofInt x >>> (Int32.ofInt y &&& 31)).toInt
def and64 (x y : Int) : Int := (Int64.ofInt x &&& Int64.ofInt y).toInt
def or64 (x y : Int) : Int := (Int64.ofInt x ||| Int64.ofInt y).toInt
def shl64 (x y : Int) : Int := (Int64.ofInt x <<< ((Int32.ofInt y).toInt64 &&& 63)).toInt
def c16 (x : Int) : Int := ((Int32.ofInt x).toUInt32 % 65536).toInt32.toInt
theorem lgc_lt {x y : Int} (h : w64 x < w64 y) : lg_cmp (Int64.ofInt x) (Int64.ofInt y) = -1 := by
  unfold lg_cmp
  rw [if_neg (fun z => by have z := i64_lt.mp z; omega), if_neg (fun z => by have z := i64_eq.mp z; omega)]
theorem lgc_eq {x y : Int} (h : w64 x = w64 y) : lg_cmp (Int64.ofInt x) (Int64.ofInt y) = 0 := by
  unfold lg_cmp
  rw [if_neg (fun z => by have z := i64_lt.mp z; omega), if_pos (i64_eq.mpr h)]
theorem lgc_gt {x y : Int} (h : w64 y < w64 x) : lg_cmp (Int64.ofInt x) (Int64.ofInt y) = 1 := by
  unfold lg_cmp
  rw [if_pos (i64_lt.mpr h)]
/-! cells -/
abbrev xFk : Type := Nat ⊕ Nat
abbrev xCk : Type := (Nat × Nat) ⊕ (Nat × List xFk)
def fv (s : St) (a j : Nat) : xFk → Value
  | .inl 0 => vi (s a j)
  | .inl 1 => vl (s a j)
  | .inl _ => .ref (s a j).toNat
  | .inr r => .ref r
def fvs (s : St) (a : Nat) : Nat → List xFk → List Value
  | _, [] => []
  | j, k :: r => fv s a j k :: fvs s a (j + 1) r
def cel (s : St) (a : Nat) : xCk → xE
  | .inl (0, n) => .inl (.int, n, .inl (fun k => Int32.ofInt (s a k)))
  | .inl (1, n) => .inl (.long, n, .inr (.inl (fun k => Int64.ofInt (s a k))))
  | .inl (2, n) => .inl (.byte, n, .inl (fun k => Int32.ofInt (s a k)))
  | .inl (_, n) => .inl (.boolean, n, .inl (fun k => Int32.ofInt (s a k)))
  | .inr (c, fs) => .inr (c, fvs s a 0 fs)
def hps (s : St) : Nat → List xCk → xH
  | _, [] => []
  | a, c :: r => cel s a c :: hps s (a + 1) r
theorem fvs_get (s : St) (a : Nat) : ∀ (l : List xFk) (j0 j : Nat), (fvs s a j0 l)[j]? = (l[j]?).map (fv s a (j0 + j)) := by
  intro l
  induction l with
  | nil => intro j0 j; rfl
  | cons k r ih =>
    intro j0 j
    cases j with
    | zero => rfl
    | succ j =>
      show (fvs s a (j0 + 1) r)[j]? = _
      rw [ih, show j0 + 1 + j = j0 + (j + 1) by omega]
      rfl
theorem hps_get (s : St) : ∀ (l : List xCk) (a0 a : Nat), (hps s a0 l)[a]? = (l[a]?).map (cel s (a0 + a)) := by
  intro l
  induction l with
  | nil => intro j0 j; rfl
  | cons k r ih =>
    intro j0 j
    cases j with
    | zero => rfl
    | succ j =>
      show (hps s (j0 + 1) r)[j]? = _
      rw [ih, show j0 + 1 + j = j0 + (j + 1) by omega]
      rfl
theorem fvs_congr {s t : St} {a : Nat} (h : ∀ k, s a k = t a k) : ∀ (l : List xFk) (j : Nat), fvs s a j l = fvs t a j l := by
  intro l
  induction l with
  | nil => intro j; rfl
  | cons k r ih =>
    intro j
    have : fv s a j k = fv t a j k := by
      unfold fv
      split <;> simp only [h]
    show fv s a j k :: fvs s a (j + 1) r = fv t a j k :: fvs t a (j + 1) r
    rw [this, ih]
theorem cel_congr {s t : St} {a : Nat} (h : ∀ k, s a k = t a k) (c : xCk) : cel s a c = cel t a c := by
  have e : s a = t a := funext h
  unfold cel
  split
  · rw [e]
  · rw [e]
  · rw [e]
  · rw [e]
  · rw [fvs_congr h]
theorem up_ne {s : St} {a j b k : Nat} {x : Int} (h : b ≠ a) : up s a j x b k = s b k := if_neg (fun z => h z.1)
theorem up_same {s : St} {a j : Nat} {x : Int} : up s a j x a j = x := if_pos ⟨rfl, rfl⟩
theorem up_nj {s : St} {a j b k : Nat} {x : Int} (h : k ≠ j) : up s a j x b k = s b k := if_neg (fun z => h z.2)
theorem cp_ne {s : St} {a0 sp a1 dp n b k : Nat} (h : b ≠ a1) : cp s a0 sp a1 dp n b k = s b k := if_neg (fun z => h z.1)
theorem hps_set {s t : St} {l : List xCk} {a : Nat} {c : xCk} {e : xE} (hl : l[a]? = some c) (hne : ∀ b k, b ≠ a → t b k = s b k) (he : cel t a c = e) : (hps s 0 l).set a e = hps t 0 l := by
  subst he
  apply List.ext_getElem?
  intro i
  by_cases hi : i = a
  · subst hi
    have hlt : i < (hps s 0 l).length := by
      have h1 := hps_get s l 0 i
      rw [hl] at h1
      exact (List.getElem?_eq_some_iff.mp h1).1
    rw [List.getElem?_set_self hlt, hps_get, hl, Nat.zero_add]
    rfl
  · rw [List.getElem?_set_ne (Ne.symm hi), hps_get, hps_get]
    cases l[i]? with
    | none => rfl
    | some c' =>
      show some (cel s (0 + i) c') = some (cel t (0 + i) c')
      rw [cel_congr (fun k => (hne _ k (by omega)).symm)]
theorem fvs_set {s : St} {a j : Nat} {x : Int} {fs : List xFk} {k : xFk} {v : Value} (hj : fs[j]? = some k) (hv : fv (up s a j x) a j k = v) : fvs (up s a j x) a 0 fs = (fvs s a 0 fs).set j v := by
  apply List.ext_getElem?
  intro i
  by_cases hi : i = j
  · subst hi
    have hlt : i < (fvs s a 0 fs).length := by
      have h1 := fvs_get s a fs 0 i
      rw [hj] at h1
      exact (List.getElem?_eq_some_iff.mp h1).1
    rw [List.getElem?_set_self hlt, fvs_get, hj, Nat.zero_add, ← hv]
    rfl
  · rw [List.getElem?_set_ne (Ne.symm hi), fvs_get, fvs_get]
    cases fs[i]? with
    | none => rfl
    | some c' =>
      show some (fv _ _ _ c') = some (fv _ _ _ c')
      have e : up s a j x a (0 + i) = s a (0 + i) := up_nj (by omega)
      unfold fv
      split <;> simp only [e]
theorem cel_up0 {s : St} {a j n : Nat} {x : Int} : cel (up s a j x) a (.inl (0, n)) = .inl (.int, n, .inl (upd (fun k => Int32.ofInt (s a k)) j (Int32.ofInt x))) := by
  unfold cel
  have : (fun k => Int32.ofInt (up s a j x a k)) = upd (fun k => Int32.ofInt (s a k)) j (Int32.ofInt x) := by
    funext k
    unfold upd
    by_cases hk : k = j
    · subst hk; rw [if_pos rfl, up_same]
    · rw [if_neg hk, up_nj hk]
  rw [this]
  rfl
theorem cel_up1 {s : St} {a j n : Nat} {x : Int} : cel (up s a j x) a (.inl (1, n)) = .inl (.long, n, .inr (.inl (vp_updL (fun k => Int64.ofInt (s a k)) j (Int64.ofInt x)))) := by
  unfold cel
  have : (fun k => Int64.ofInt (up s a j x a k)) = vp_updL (fun k => Int64.ofInt (s a k)) j (Int64.ofInt x) := by
    funext k
    unfold vp_updL
    by_cases hk : k = j
    · subst hk; rw [if_pos rfl, up_same]
    · rw [if_neg hk, up_nj hk]
  rw [this]
  rfl
theorem cel_up2 {s : St} {a j n : Nat} {x : Int} : cel (up s a j x) a (.inl (2, n)) = .inl (.byte, n, .inl (upd (fun k => Int32.ofInt (s a k)) j (Int32.ofInt x))) := by
  unfold cel
  have : (fun k => Int32.ofInt (up s a j x a k)) = upd (fun k => Int32.ofInt (s a k)) j (Int32.ofInt x) := by
    funext k
    unfold upd
    by_cases hk : k = j
    · subst hk; rw [if_pos rfl, up_same]
    · rw [if_neg hk, up_nj hk]
  rw [this]
  rfl
theorem cel_up3 {s : St} {a j n : Nat} {x : Int} : cel (up s a j x) a (.inl (3, n)) = .inl (.boolean, n, .inl (upd (fun k => Int32.ofInt (s a k)) j (Int32.ofInt x))) := by
  unfold cel
  have : (fun k => Int32.ofInt (up s a j x a k)) = upd (fun k => Int32.ofInt (s a k)) j (Int32.ofInt x) := by
    funext k
    unfold upd
    by_cases hk : k = j
    · subst hk; rw [if_pos rfl, up_same]
    · rw [if_neg hk, up_nj hk]
  rw [this]
  rfl
theorem cp_fun {α : Type} (f : Int → α) {s : St} {a0 sp a1 dp n : Nat} : (fun k => f (cp s a0 sp a1 dp n a1 k)) = va_cpy (fun k => f (s a0 k)) (fun k => f (s a1 k)) sp dp n := by
  funext k
  unfold va_cpy cp
  by_cases hk : dp ≤ k ∧ k < dp + n
  · rw [if_pos hk, if_pos ⟨rfl, hk⟩]
  · rw [if_neg hk, if_neg (fun z => hk z.2)]
end
section
/-! what a run does depends on its locals by what stands in them alone -/
def xNd (L : xL) : Prop := (L.map (fun q => q.1)).Nodup
def xLs (L' L : xL) : Prop := ∀ k v, L'.lookup k = some v → L.lookup k = some v
theorem xlk_mem {L : xL} {k : Nat} {v : Value} (hd : xNd L) (h : (k, v) ∈ L) : L.lookup k = some v := by
  induction L with
  | nil => cases h
  | cons q r ih =>
    obtain ⟨j, w⟩ := q
    rw [List.lookup_cons]
    have hd' := List.nodup_cons.mp hd
    rcases List.mem_cons.mp h with z | z
    · cases z
      simp
    · have hne : ¬ k = j := fun e => hd'.1 (by subst e; exact List.mem_map.mpr ⟨(k, v), z, rfl⟩)
      rw [show (k == j) = false by simpa using hne]
      exact ih hd'.2 z
theorem xlk_filter {L : xL} {f : Nat × Value → Bool} {k : Nat} {v : Value} (hd : xNd L) : (L.filter f).lookup k = some v ↔ L.lookup k = some v ∧ f (k, v) = true := by
  have hd2 : xNd (L.filter f) := List.Nodup.sublist (List.Sublist.map _ List.filter_sublist) hd
  constructor
  · intro h
    have h1 := List.mem_filter.mp (x_lookg h)
    exact ⟨xlk_mem hd h1.1, h1.2⟩
  · intro h
    exact xlk_mem hd2 (List.mem_filter.mpr ⟨x_lookg h.1, h.2⟩)
theorem xNd_cons {L : xL} {f : Nat × Value → Bool} {i : Nat} {v : Value} (hd : xNd L) (hf : ∀ w, f (i, w) = false) : xNd ((i, v) :: L.filter f) := by
  refine List.nodup_cons.mpr ⟨?_, List.Nodup.sublist (List.Sublist.map _ List.filter_sublist) hd⟩
  intro h
  obtain ⟨⟨a, w⟩, h1, h2⟩ := List.mem_map.mp h
  have h2 : a = i := h2
  subst h2
  have := (List.mem_filter.mp h1).2
  rw [hf] at this
  cases this
theorem xLs_cons {L' L : xL} {f : Nat × Value → Bool} {i : Nat} {v : Value} (hd' : xNd L') (hd : xNd L) (h : xLs L' L) : xLs ((i, v) :: L'.filter f) ((i, v) :: L.filter f) := by
  intro k w hk
  rw [List.lookup_cons] at hk ⊢
  cases hki : (k == i) with
  | true => rw [hki] at hk; exact hk
  | false =>
    rw [hki] at hk
    have hk := (xlk_filter hd').mp hk
    exact (xlk_filter hd).mpr ⟨h _ _ hk.1, hk.2⟩
theorem xst1_Nd {L : xL} {i : Nat} {v : Value} (hd : xNd L) : xNd (xst1 L i v) := xNd_cons hd (fun w => by simp)
theorem xst2_Nd {L : xL} {i : Nat} {v : Value} (hd : xNd L) : xNd (xst2 L i v) := xNd_cons hd (fun w => by simp)
theorem xs2_locs {con : Nat → Option Value} {str : Nat → Option Nat} {nL : Nat} {i : Instr} {L' L : xL} {st : List Value} {r : xL × List Value} (hd' : xNd L') (hd : xNd L) (hs : xLs L' L) (h : xs2 con str nL i L' st = some r) : ∃ L1, xs2 con str nL i L st = some (L1, r.2) ∧ xNd r.1 ∧ xNd L1 ∧ xLs r.1 L1 := by
  unfold xs2 at h ⊢
  split at h
  · cases h; exact ⟨_, rfl, hd', hd, hs⟩
  · cases h; exact ⟨_, rfl, hd', hd, hs⟩
  · cases h; exact ⟨_, rfl, hd', hd, hs⟩
  · cases h; exact ⟨_, rfl, hd', hd, hs⟩
  · cases h; exact ⟨_, rfl, hd', hd, hs⟩
  · try dsimp only
    split at h
    · rename_i q; (try rw [q]); cases h; exact ⟨_, rfl, hd', hd, hs⟩
    · cases h
    · rename_i q
      (try rw [q])
      try dsimp only
      split at h
      · rename_i q; (try rw [q]); cases h; exact ⟨_, rfl, hd', hd, hs⟩
      · cases h
  · try dsimp only
    split at h
    · rename_i q; (try rw [q]); cases h; exact ⟨_, rfl, hd', hd, hs⟩
    · cases h
  · try dsimp only
    split at h
    · rename_i q; rw [hs _ _ q]; cases h; exact ⟨_, rfl, hd', hd, hs⟩
    · cases h
  · try dsimp only
    split at h
    · rename_i q; rw [hs _ _ q]; cases h; exact ⟨_, rfl, hd', hd, hs⟩
    · cases h
  · try dsimp only
    split at h
    · rename_i q; rw [hs _ _ q]; cases h; exact ⟨_, rfl, hd', hd, hs⟩
    · cases h
  · try dsimp only
    split at h
    · rename_i q; rw [hs _ _ q]; cases h; exact ⟨_, rfl, hd', hd, hs⟩
    · cases h
  · try dsimp only
    split at h
    · rename_i q; rw [hs _ _ q]; cases h; exact ⟨_, rfl, hd', hd, hs⟩
    · rename_i q
      rw [hs _ _ q]
      try dsimp only
      split at h
      · cases h
      · rename_i q2; rw [if_neg q2]; cases h; exact ⟨_, rfl, hd', hd, hs⟩
    · rename_i q; rw [hs _ _ q]; cases h; exact ⟨_, rfl, hd', hd, hs⟩
    · cases h
  · try dsimp only
    split at h
    · rename_i q; rw [hs _ _ q]; cases h; exact ⟨_, rfl, hd', hd, hs⟩
    · rename_i q
      rw [hs _ _ q]
      try dsimp only
      split at h
      · cases h
      · rename_i q2; rw [if_neg q2]; cases h; exact ⟨_, rfl, hd', hd, hs⟩
    · rename_i q; rw [hs _ _ q]; cases h; exact ⟨_, rfl, hd', hd, hs⟩
    · cases h
  · try dsimp only
    split at h
    · split at h
      · rename_i q; (try dsimp only); rw [if_pos q]; cases h; exact ⟨_, rfl, xst1_Nd hd', xst1_Nd hd, xLs_cons hd' hd hs⟩
      · cases h
    · cases h
  · try dsimp only
    split at h
    · split at h
      · rename_i q; (try dsimp only); rw [if_pos q]; cases h; exact ⟨_, rfl, xst1_Nd hd', xst1_Nd hd, xLs_cons hd' hd hs⟩
      · cases h
    · cases h
  · try dsimp only
    split at h
    · split at h
      · rename_i q; (try dsimp only); rw [if_pos q]; cases h; exact ⟨_, rfl, xst2_Nd hd', xst2_Nd hd, xLs_cons hd' hd hs⟩
      · cases h
    · cases h
  · try dsimp only
    split at h
    · split at h
      · rename_i q; (try dsimp only); rw [if_pos q]; cases h; exact ⟨_, rfl, xst2_Nd hd', xst2_Nd hd, xLs_cons hd' hd hs⟩
      · cases h
    · cases h
  · try dsimp only
    split at h
    · split at h
      · rename_i q; (try dsimp only); rw [if_pos q]; cases h; exact ⟨_, rfl, xst1_Nd hd', xst1_Nd hd, xLs_cons hd' hd hs⟩
      · cases h
    · split at h
      · rename_i q; (try dsimp only); rw [if_pos q]; cases h; exact ⟨_, rfl, xst1_Nd hd', xst1_Nd hd, xLs_cons hd' hd hs⟩
      · cases h
    · cases h
  · try dsimp only
    split at h
    · split at h
      · rename_i q; (try dsimp only); rw [if_pos q]; cases h; exact ⟨_, rfl, xst1_Nd hd', xst1_Nd hd, xLs_cons hd' hd hs⟩
      · cases h
    · split at h
      · rename_i q; (try dsimp only); rw [if_pos q]; cases h; exact ⟨_, rfl, xst1_Nd hd', xst1_Nd hd, xLs_cons hd' hd hs⟩
      · cases h
    · cases h
  · try dsimp only
    split at h
    · rename_i q
      rw [hs _ _ q]
      try dsimp only
      split at h
      · rename_i q; rw [if_pos q]; cases h; exact ⟨_, rfl, xst1_Nd hd', xst1_Nd hd, xLs_cons hd' hd hs⟩
      · cases h
    · cases h
  · cases h
section XLC
variable {G : xG} {sc : xS}
set_option maxHeartbeats 4000000 in
theorem xev_locs : ∀ (n d M pc : Nat) (L' L : xL) (st : List Value) (h : xH) (r : xR), xNd L' → xNd L → xLs L' L → xev G sc n d M pc L' st h = some r → xev G sc n d M pc L st h = some r := by
  intro n
  induction n with
  | zero =>
    intro d M pc L' L st h r _ _ _ hr
    cases hr
  | succ n ih =>
    intro d M pc L' L st h r n1 n2 hs0 hr
    rw [xev] at hr
    rw [xev]
    split at hr
    · cases hr
    · rename_i i hi
      split at hr
      · rename_i hs
        split at hr
        · rename_i st' q
          try simp only [hs, q]
          exact ih _ _ _ _ _ _ _ _ n1 n2 hs0 hr
        · cases hr
      · rename_i hs
        split at hr
        · rename_i st' q
          try simp only [hs, q]
          exact ih _ _ _ _ _ _ _ _ n1 n2 hs0 hr
        · cases hr
      · rename_i hs
        split at hr
        · rename_i L1 st' q
          obtain ⟨L2, q1, q2, q3, q4⟩ := xs2_locs n1 n2 hs0 q
          try simp only [hs, q1]
          exact ih _ _ _ _ _ _ _ _ q2 q3 q4 hr
        · cases hr
      · rename_i hs
        split at hr
        · rename_i pc' st' q
          try simp only [hs, q]
          exact ih _ _ _ _ _ _ _ _ n1 n2 hs0 hr
        · cases hr
      · rename_i hs
        split at hr
        · rename_i st' h' q
          try simp only [hs, q]
          exact ih _ _ _ _ _ _ _ _ n1 n2 hs0 hr
        · cases hr
      · rename_i hs
        try simp only [hs]
        exact hr
      · rename_i hs
        try simp only [hs]
        split at hr
        · split at hr
          · rename_i ci q
            obtain ⟨v, h', a1, a2, e1, rfl⟩ := xadd_some hr
            try simp only [q, ih _ _ _ _ _ _ _ _ n1 n2 hs0 e1]
            rfl
          · cases hr
        · cases hr
      · rename_i hs
        try simp only [hs]
        split at hr
        · split at hr
          · cases hr
          · rename_i q0
            split at hr
            · rename_i c0 qn
              obtain ⟨v, h', a1, a2, e1, rfl⟩ := xadd_some hr
              try simp only [q0, if_false, qn, ih _ _ _ _ _ _ _ _ n1 n2 hs0 e1]
              rfl
            · cases hr
        · cases hr
      · rename_i hs
        try simp only [hs]
        split at hr
        · rename_i d' kind N k ci qk
          try simp only [qk]
          split at hr
          · split at hr
            · split at hr
              · cases hr
              · rename_i q8
                try simp only [q8, if_false]
                exact ih _ _ _ _ _ _ _ _ n1 n2 hs0 hr
            · cases hr
          · split at hr
            · rename_i st' h' q
              try simp only [q]
              exact ih _ _ _ _ _ _ _ _ n1 n2 hs0 hr
            · cases hr
          · split at hr
            · split at hr
              · cases hr
              · rename_i q8
                try simp only [q8, if_false]
                exact ih _ _ _ _ _ _ _ _ n1 n2 hs0 hr
            · cases hr
          · split at hr
            · split at hr
              · cases hr
              · rename_i q8
                try simp only [q8, if_false]
                exact ih _ _ _ _ _ _ _ _ n1 n2 hs0 hr
            · cases hr
          · split at hr
            · cases hr
            · rename_i q0
              split at hr
              · rename_i v h' a1 a2 qe
                obtain ⟨v2, h2, b1, b2, e2, rfl⟩ := xadd_some hr
                try simp only [q0, if_false, qe, ih _ _ _ _ _ _ _ _ n1 n2 hs0 e2]
                rfl
              · cases hr
        · cases hr
      · cases hr
/-- the same run from other locals that hold as much -/
def xLsub : xL → xL → Prop
  | [], _ => True
  | (k, v) :: r, L => L.lookup k = some v ∧ xLsub r L
theorem xLsub_ok {L' L : xL} (h : xLsub L' L) : xLs L' L := by
  induction L' with
  | nil => intro k v hk; cases hk
  | cons q r ih =>
    obtain ⟨j, w⟩ := q
    intro k v hk
    rw [List.lookup_cons] at hk
    cases hki : (k == j) with
    | true => rw [hki] at hk; cases hk; rw [beq_iff_eq.mp hki]; exact h.1
    | false => rw [hki] at hk; exact ih h.2 k v hk
theorem tLc {d M pc : Nat} {L : xL} {st : List Value} {h : xH} {Q : xR → Prop} (L' : xL) (n1 : xNd L') (n2 : xNd L) (hs : xLsub L' L) (k : xT G sc d M pc L' st h Q) : xT G sc d M pc L st h Q := by
  obtain ⟨n, r, h1, h2⟩ := k
  exact ⟨n, r, xev_locs n d M pc L' L st h r n1 n2 (xLsub_ok hs) h1, h2⟩
end XLC
end
section
def sh : List xCk := [.inr (6, [.inr 1, .inr 15, .inr 17, .inr 26, .inr 38, .inr 50, .inr 51, .inr 55, .inr 56, .inr 65, .inl 0, .inl 0, .inl 0, .inl 0]), .inr (1, [.inr 2, .inl 0, .inr 11, .inr 12, .inr 13, .inr 14, .inl 0, .inl 0]), .inr (4, [.inr 3, .inr 4, .inr 5, .inr 6, .inr 7, .inr 8, .inr 9, .inr 10]), .inl (0, 1), .inl (0, 24), .inl (0, 24), .inl (0, 24), .inl (0, 24), .inl (0, 24), .inl (0, 24), .inl (1, 192), .inl (0, 120), .inl (0, 121), .inl (0, 121), .inl (0, 121), .inr (0, [.inr 16, .inl 0]), .inl (0, 1024), .inr (4, [.inr 18, .inr 19, .inr 20, .inr 21, .inr 22, .inr 23, .inr 24, .inr 25]), .inl (0, 8), .inl (0, 192), .inl (0, 192), .inl (0, 192), .inl (0, 192), .inl (0, 192), .inl (0, 192), .inl (1, 1536), .inr (5, [.inr 27, .inr 28, .inr 29, .inr 30, .inr 31, .inr 32, .inr 33, .inr 34, .inr 35, .inr 36, .inr 37, .inl 0]), .inl (0, 192), .inl (0, 192), .inl (0, 192), .inl (3, 192), .inl (0, 192), .inl (0, 192), .inl (2, 12288), .inl (1, 12288), .inl (2, 12288), .inl (3, 192), .inl (0, 192), .inr (5, [.inr 39, .inr 40, .inr 41, .inr 42, .inr 43, .inr 44, .inr 45, .inr 46, .inr 47, .inr 48, .inr 49, .inl 0]), .inl (0, 192), .inl (0, 192), .inl (0, 192), .inl (3, 192), .inl (0, 192), .inl (0, 192), .inl (2, 12288), .inl (1, 12288), .inl (2, 12288), .inl (3, 192), .inl (0, 192), .inr (3, [.inr 17, .inl 2, .inl 0, .inl 0, .inl 1]), .inr (2, [.inr 52, .inr 53, .inr 54]), .inl (0, 4), .inl (0, 4), .inl (1, 160), .inl (1, 16), .inr (4, [.inr 57, .inr 58, .inr 59, .inr 60, .inr 61, .inr 62, .inr 63, .inr 64]), .inl (0, 8), .inl (0, 192), .inl (0, 192), .inl (0, 192), .inl (0, 192), .inl (0, 192), .inl (0, 192), .inl (1, 1536), .inr (5, [.inr 66, .inr 67, .inr 68, .inr 69, .inr 70, .inr 71, .inr 72, .inr 73, .inr 74, .inr 75, .inr 76, .inl 0]), .inl (0, 192), .inl (0, 192), .inl (0, 192), .inl (3, 192), .inl (0, 192), .inl (0, 192), .inl (2, 12288), .inl (1, 12288), .inl (2, 12288), .inl (3, 192), .inl (0, 192), .inr (7, [.inl 0, .inr 78, .inr 79, .inr 80, .inr 81, .inr 82, .inr 83, .inr 84, .inr 85, .inl 0, .inr 86, .inr 87, .inr 88, .inr 89, .inr 90, .inr 91, .inr 92, .inr 93, .inr 94, .inl 0, .inl 0, .inl 0, .inl 0, .inl 0, .inl 0, .inl 0, .inl 0, .inr 95, .inr 96, .inr 97, .inr 98, .inr 99, .inr 100, .inr 101, .inr 102, .inl 0, .inl 0, .inl 0, .inl 1, .inl 0, .inr 103, .inr 104, .inr 105, .inr 106, .inr 107, .inr 108, .inr 109, .inr 110, .inr 111, .inr 112, .inr 113, .inr 114, .inr 115, .inr 116, .inr 117, .inr 118, .inr 119, .inr 120, .inr 121, .inr 122, .inr 123, .inr 124, .inr 125, .inl 0, .inl 0, .inr 126, .inr 127, .inr 128, .inr 129]), .inl (0, 8), .inl (0, 192), .inl (0, 192), .inl (0, 192), .inl (1, 192), .inl (1, 192), .inl (0, 192), .inl (1, 1536), .inl (0, 192), .inl (0, 192), .inl (3, 192), .inl (0, 192), .inl (0, 192), .inl (0, 12288), .inl (1, 12288), .inl (0, 12288), .inl (0, 120), .inl (0, 24), .inl (0, 24), .inl (0, 24), .inl (1, 24), .inl (1, 24), .inl (0, 24), .inl (1, 192), .inl (0, 4096), .inl (0, 192), .inl (0, 192), .inl (0, 192), .inl (0, 192), .inl (0, 12288), .inl (1, 12288), .inl (0, 12288), .inl (1, 16), .inl (0, 8), .inl (0, 192), .inl (0, 192), .inl (0, 192), .inl (1, 192), .inl (1, 192), .inl (0, 192), .inl (1, 1536), .inl (0, 192), .inl (0, 192), .inl (0, 192), .inl (0, 192), .inl (0, 12288), .inl (1, 12288), .inl (0, 12288), .inl (3, 4), .inl (0, 4), .inl (0, 4), .inl (1, 160)]
def hp (s : St) : xH := hps s 0 sh
theorem sh_0 : sh[0]? = some (.inr (6, [.inr 1, .inr 15, .inr 17, .inr 26, .inr 38, .inr 50, .inr 51, .inr 55, .inr 56, .inr 65, .inl 0, .inl 0, .inl 0, .inl 0])) := rfl
theorem sh_1 : sh[1]? = some (.inr (1, [.inr 2, .inl 0, .inr 11, .inr 12, .inr 13, .inr 14, .inl 0, .inl 0])) := rfl
theorem sh_2 : sh[2]? = some (.inr (4, [.inr 3, .inr 4, .inr 5, .inr 6, .inr 7, .inr 8, .inr 9, .inr 10])) := rfl
theorem sh_3 : sh[3]? = some (.inl (0, 1)) := rfl
theorem sh_4 : sh[4]? = some (.inl (0, 24)) := rfl
theorem sh_5 : sh[5]? = some (.inl (0, 24)) := rfl
theorem sh_6 : sh[6]? = some (.inl (0, 24)) := rfl
theorem sh_7 : sh[7]? = some (.inl (0, 24)) := rfl
theorem sh_8 : sh[8]? = some (.inl (0, 24)) := rfl
theorem sh_9 : sh[9]? = some (.inl (0, 24)) := rfl
theorem sh_10 : sh[10]? = some (.inl (1, 192)) := rfl
theorem sh_11 : sh[11]? = some (.inl (0, 120)) := rfl
theorem sh_12 : sh[12]? = some (.inl (0, 121)) := rfl
theorem sh_13 : sh[13]? = some (.inl (0, 121)) := rfl
theorem sh_14 : sh[14]? = some (.inl (0, 121)) := rfl
theorem sh_15 : sh[15]? = some (.inr (0, [.inr 16, .inl 0])) := rfl
theorem sh_16 : sh[16]? = some (.inl (0, 1024)) := rfl
theorem sh_17 : sh[17]? = some (.inr (4, [.inr 18, .inr 19, .inr 20, .inr 21, .inr 22, .inr 23, .inr 24, .inr 25])) := rfl
theorem sh_18 : sh[18]? = some (.inl (0, 8)) := rfl
theorem sh_19 : sh[19]? = some (.inl (0, 192)) := rfl
theorem sh_20 : sh[20]? = some (.inl (0, 192)) := rfl
theorem sh_21 : sh[21]? = some (.inl (0, 192)) := rfl
theorem sh_22 : sh[22]? = some (.inl (0, 192)) := rfl
theorem sh_23 : sh[23]? = some (.inl (0, 192)) := rfl
theorem sh_24 : sh[24]? = some (.inl (0, 192)) := rfl
theorem sh_25 : sh[25]? = some (.inl (1, 1536)) := rfl
theorem sh_26 : sh[26]? = some (.inr (5, [.inr 27, .inr 28, .inr 29, .inr 30, .inr 31, .inr 32, .inr 33, .inr 34, .inr 35, .inr 36, .inr 37, .inl 0])) := rfl
theorem sh_27 : sh[27]? = some (.inl (0, 192)) := rfl
theorem sh_28 : sh[28]? = some (.inl (0, 192)) := rfl
theorem sh_29 : sh[29]? = some (.inl (0, 192)) := rfl
theorem sh_30 : sh[30]? = some (.inl (3, 192)) := rfl
theorem sh_31 : sh[31]? = some (.inl (0, 192)) := rfl
theorem sh_32 : sh[32]? = some (.inl (0, 192)) := rfl
theorem sh_33 : sh[33]? = some (.inl (2, 12288)) := rfl
theorem sh_34 : sh[34]? = some (.inl (1, 12288)) := rfl
theorem sh_35 : sh[35]? = some (.inl (2, 12288)) := rfl
theorem sh_36 : sh[36]? = some (.inl (3, 192)) := rfl
theorem sh_37 : sh[37]? = some (.inl (0, 192)) := rfl
theorem sh_38 : sh[38]? = some (.inr (5, [.inr 39, .inr 40, .inr 41, .inr 42, .inr 43, .inr 44, .inr 45, .inr 46, .inr 47, .inr 48, .inr 49, .inl 0])) := rfl
theorem sh_39 : sh[39]? = some (.inl (0, 192)) := rfl
theorem sh_40 : sh[40]? = some (.inl (0, 192)) := rfl
theorem sh_41 : sh[41]? = some (.inl (0, 192)) := rfl
theorem sh_42 : sh[42]? = some (.inl (3, 192)) := rfl
theorem sh_43 : sh[43]? = some (.inl (0, 192)) := rfl
theorem sh_44 : sh[44]? = some (.inl (0, 192)) := rfl
theorem sh_45 : sh[45]? = some (.inl (2, 12288)) := rfl
theorem sh_46 : sh[46]? = some (.inl (1, 12288)) := rfl
theorem sh_47 : sh[47]? = some (.inl (2, 12288)) := rfl
theorem sh_48 : sh[48]? = some (.inl (3, 192)) := rfl
theorem sh_49 : sh[49]? = some (.inl (0, 192)) := rfl
theorem sh_50 : sh[50]? = some (.inr (3, [.inr 17, .inl 2, .inl 0, .inl 0, .inl 1])) := rfl
theorem sh_51 : sh[51]? = some (.inr (2, [.inr 52, .inr 53, .inr 54])) := rfl
theorem sh_52 : sh[52]? = some (.inl (0, 4)) := rfl
theorem sh_53 : sh[53]? = some (.inl (0, 4)) := rfl
theorem sh_54 : sh[54]? = some (.inl (1, 160)) := rfl
theorem sh_55 : sh[55]? = some (.inl (1, 16)) := rfl
theorem sh_56 : sh[56]? = some (.inr (4, [.inr 57, .inr 58, .inr 59, .inr 60, .inr 61, .inr 62, .inr 63, .inr 64])) := rfl
theorem sh_57 : sh[57]? = some (.inl (0, 8)) := rfl
theorem sh_58 : sh[58]? = some (.inl (0, 192)) := rfl
theorem sh_59 : sh[59]? = some (.inl (0, 192)) := rfl
theorem sh_60 : sh[60]? = some (.inl (0, 192)) := rfl
theorem sh_61 : sh[61]? = some (.inl (0, 192)) := rfl
theorem sh_62 : sh[62]? = some (.inl (0, 192)) := rfl
theorem sh_63 : sh[63]? = some (.inl (0, 192)) := rfl
theorem sh_64 : sh[64]? = some (.inl (1, 1536)) := rfl
theorem sh_65 : sh[65]? = some (.inr (5, [.inr 66, .inr 67, .inr 68, .inr 69, .inr 70, .inr 71, .inr 72, .inr 73, .inr 74, .inr 75, .inr 76, .inl 0])) := rfl
theorem sh_66 : sh[66]? = some (.inl (0, 192)) := rfl
theorem sh_67 : sh[67]? = some (.inl (0, 192)) := rfl
theorem sh_68 : sh[68]? = some (.inl (0, 192)) := rfl
theorem sh_69 : sh[69]? = some (.inl (3, 192)) := rfl
theorem sh_70 : sh[70]? = some (.inl (0, 192)) := rfl
theorem sh_71 : sh[71]? = some (.inl (0, 192)) := rfl
theorem sh_72 : sh[72]? = some (.inl (2, 12288)) := rfl
theorem sh_73 : sh[73]? = some (.inl (1, 12288)) := rfl
theorem sh_74 : sh[74]? = some (.inl (2, 12288)) := rfl
theorem sh_75 : sh[75]? = some (.inl (3, 192)) := rfl
theorem sh_76 : sh[76]? = some (.inl (0, 192)) := rfl
theorem sh_77 : sh[77]? = some (.inr (7, [.inl 0, .inr 78, .inr 79, .inr 80, .inr 81, .inr 82, .inr 83, .inr 84, .inr 85, .inl 0, .inr 86, .inr 87, .inr 88, .inr 89, .inr 90, .inr 91, .inr 92, .inr 93, .inr 94, .inl 0, .inl 0, .inl 0, .inl 0, .inl 0, .inl 0, .inl 0, .inl 0, .inr 95, .inr 96, .inr 97, .inr 98, .inr 99, .inr 100, .inr 101, .inr 102, .inl 0, .inl 0, .inl 0, .inl 1, .inl 0, .inr 103, .inr 104, .inr 105, .inr 106, .inr 107, .inr 108, .inr 109, .inr 110, .inr 111, .inr 112, .inr 113, .inr 114, .inr 115, .inr 116, .inr 117, .inr 118, .inr 119, .inr 120, .inr 121, .inr 122, .inr 123, .inr 124, .inr 125, .inl 0, .inl 0, .inr 126, .inr 127, .inr 128, .inr 129])) := rfl
theorem sh_78 : sh[78]? = some (.inl (0, 8)) := rfl
theorem sh_79 : sh[79]? = some (.inl (0, 192)) := rfl
theorem sh_80 : sh[80]? = some (.inl (0, 192)) := rfl
theorem sh_81 : sh[81]? = some (.inl (0, 192)) := rfl
theorem sh_82 : sh[82]? = some (.inl (1, 192)) := rfl
theorem sh_83 : sh[83]? = some (.inl (1, 192)) := rfl
theorem sh_84 : sh[84]? = some (.inl (0, 192)) := rfl
theorem sh_85 : sh[85]? = some (.inl (1, 1536)) := rfl
theorem sh_86 : sh[86]? = some (.inl (0, 192)) := rfl
theorem sh_87 : sh[87]? = some (.inl (0, 192)) := rfl
theorem sh_88 : sh[88]? = some (.inl (3, 192)) := rfl
theorem sh_89 : sh[89]? = some (.inl (0, 192)) := rfl
theorem sh_90 : sh[90]? = some (.inl (0, 192)) := rfl
theorem sh_91 : sh[91]? = some (.inl (0, 12288)) := rfl
theorem sh_92 : sh[92]? = some (.inl (1, 12288)) := rfl
theorem sh_93 : sh[93]? = some (.inl (0, 12288)) := rfl
theorem sh_94 : sh[94]? = some (.inl (0, 120)) := rfl
theorem sh_95 : sh[95]? = some (.inl (0, 24)) := rfl
theorem sh_96 : sh[96]? = some (.inl (0, 24)) := rfl
theorem sh_97 : sh[97]? = some (.inl (0, 24)) := rfl
theorem sh_98 : sh[98]? = some (.inl (1, 24)) := rfl
theorem sh_99 : sh[99]? = some (.inl (1, 24)) := rfl
theorem sh_100 : sh[100]? = some (.inl (0, 24)) := rfl
theorem sh_101 : sh[101]? = some (.inl (1, 192)) := rfl
theorem sh_102 : sh[102]? = some (.inl (0, 4096)) := rfl
theorem sh_103 : sh[103]? = some (.inl (0, 192)) := rfl
theorem sh_104 : sh[104]? = some (.inl (0, 192)) := rfl
theorem sh_105 : sh[105]? = some (.inl (0, 192)) := rfl
theorem sh_106 : sh[106]? = some (.inl (0, 192)) := rfl
theorem sh_107 : sh[107]? = some (.inl (0, 12288)) := rfl
theorem sh_108 : sh[108]? = some (.inl (1, 12288)) := rfl
theorem sh_109 : sh[109]? = some (.inl (0, 12288)) := rfl
theorem sh_110 : sh[110]? = some (.inl (1, 16)) := rfl
theorem sh_111 : sh[111]? = some (.inl (0, 8)) := rfl
theorem sh_112 : sh[112]? = some (.inl (0, 192)) := rfl
theorem sh_113 : sh[113]? = some (.inl (0, 192)) := rfl
theorem sh_114 : sh[114]? = some (.inl (0, 192)) := rfl
theorem sh_115 : sh[115]? = some (.inl (1, 192)) := rfl
theorem sh_116 : sh[116]? = some (.inl (1, 192)) := rfl
theorem sh_117 : sh[117]? = some (.inl (0, 192)) := rfl
theorem sh_118 : sh[118]? = some (.inl (1, 1536)) := rfl
theorem sh_119 : sh[119]? = some (.inl (0, 192)) := rfl
theorem sh_120 : sh[120]? = some (.inl (0, 192)) := rfl
theorem sh_121 : sh[121]? = some (.inl (0, 192)) := rfl
theorem sh_122 : sh[122]? = some (.inl (0, 192)) := rfl
theorem sh_123 : sh[123]? = some (.inl (0, 12288)) := rfl
theorem sh_124 : sh[124]? = some (.inl (1, 12288)) := rfl
theorem sh_125 : sh[125]? = some (.inl (0, 12288)) := rfl
theorem sh_126 : sh[126]? = some (.inl (3, 4)) := rfl
theorem sh_127 : sh[127]? = some (.inl (0, 4)) := rfl
theorem sh_128 : sh[128]? = some (.inl (0, 4)) := rfl
theorem sh_129 : sh[129]? = some (.inl (1, 160)) := rfl
/-- a Told at t -/
def isTold (t : Nat) : Prop := sh[t]? = some (.inr (5, [.inr (t + 1), .inr (t + 2), .inr (t + 3), .inr (t + 4), .inr (t + 5), .inr (t + 6), .inr (t + 7), .inr (t + 8), .inr (t + 9), .inr (t + 10), .inr (t + 11), .inl 0])) ∧ sh[t + 1]? = some (.inl (0, 192)) ∧ sh[t + 2]? = some (.inl (0, 192)) ∧ sh[t + 3]? = some (.inl (0, 192)) ∧ sh[t + 4]? = some (.inl (3, 192)) ∧ sh[t + 5]? = some (.inl (0, 192)) ∧ sh[t + 6]? = some (.inl (0, 192)) ∧ sh[t + 7]? = some (.inl (2, 12288)) ∧ sh[t + 8]? = some (.inl (1, 12288)) ∧ sh[t + 9]? = some (.inl (2, 12288)) ∧ sh[t + 10]? = some (.inl (3, 192)) ∧ sh[t + 11]? = some (.inl (0, 192))
/-- Texts of u streams at t -/
def isTexts (t u : Nat) : Prop := sh[t]? = some (.inr (4, [.inr (t + 1), .inr (t + 2), .inr (t + 3), .inr (t + 4), .inr (t + 5), .inr (t + 6), .inr (t + 7), .inr (t + 8)])) ∧ sh[t + 1]? = some (.inl (0, u)) ∧ sh[t + 2]? = some (.inl (0, u * 24)) ∧ sh[t + 3]? = some (.inl (0, u * 24)) ∧ sh[t + 4]? = some (.inl (0, u * 24)) ∧ sh[t + 5]? = some (.inl (0, u * 24)) ∧ sh[t + 6]? = some (.inl (0, u * 24)) ∧ sh[t + 7]? = some (.inl (0, u * 24)) ∧ sh[t + 8]? = some (.inl (1, u * 192))
theorem told_0 {t : Nat} (H : isTold t) : sh[t]? = some (.inr (5, [.inr (t + 1), .inr (t + 2), .inr (t + 3), .inr (t + 4), .inr (t + 5), .inr (t + 6), .inr (t + 7), .inr (t + 8), .inr (t + 9), .inr (t + 10), .inr (t + 11), .inl 0])) := H.1
theorem told_1 {t : Nat} (H : isTold t) : sh[t + 1]? = some (.inl (0, 192)) := H.2.1
theorem told_2 {t : Nat} (H : isTold t) : sh[t + 2]? = some (.inl (0, 192)) := H.2.2.1
theorem told_3 {t : Nat} (H : isTold t) : sh[t + 3]? = some (.inl (0, 192)) := H.2.2.2.1
theorem told_4 {t : Nat} (H : isTold t) : sh[t + 4]? = some (.inl (3, 192)) := H.2.2.2.2.1
theorem told_5 {t : Nat} (H : isTold t) : sh[t + 5]? = some (.inl (0, 192)) := H.2.2.2.2.2.1
theorem told_6 {t : Nat} (H : isTold t) : sh[t + 6]? = some (.inl (0, 192)) := H.2.2.2.2.2.2.1
theorem told_7 {t : Nat} (H : isTold t) : sh[t + 7]? = some (.inl (2, 12288)) := H.2.2.2.2.2.2.2.1
theorem told_8 {t : Nat} (H : isTold t) : sh[t + 8]? = some (.inl (1, 12288)) := H.2.2.2.2.2.2.2.2.1
theorem told_9 {t : Nat} (H : isTold t) : sh[t + 9]? = some (.inl (2, 12288)) := H.2.2.2.2.2.2.2.2.2.1
theorem told_10 {t : Nat} (H : isTold t) : sh[t + 10]? = some (.inl (3, 192)) := H.2.2.2.2.2.2.2.2.2.2.1
theorem told_11 {t : Nat} (H : isTold t) : sh[t + 11]? = some (.inl (0, 192)) := H.2.2.2.2.2.2.2.2.2.2.2
theorem texts_0 {t u : Nat} (H : isTexts t u) : sh[t]? = some (.inr (4, [.inr (t + 1), .inr (t + 2), .inr (t + 3), .inr (t + 4), .inr (t + 5), .inr (t + 6), .inr (t + 7), .inr (t + 8)])) := H.1
theorem texts_1 {t u : Nat} (H : isTexts t u) : sh[t + 1]? = some (.inl (0, u)) := H.2.1
theorem texts_2 {t u : Nat} (H : isTexts t u) : sh[t + 2]? = some (.inl (0, u * 24)) := H.2.2.1
theorem texts_3 {t u : Nat} (H : isTexts t u) : sh[t + 3]? = some (.inl (0, u * 24)) := H.2.2.2.1
theorem texts_4 {t u : Nat} (H : isTexts t u) : sh[t + 4]? = some (.inl (0, u * 24)) := H.2.2.2.2.1
theorem texts_5 {t u : Nat} (H : isTexts t u) : sh[t + 5]? = some (.inl (0, u * 24)) := H.2.2.2.2.2.1
theorem texts_6 {t u : Nat} (H : isTexts t u) : sh[t + 6]? = some (.inl (0, u * 24)) := H.2.2.2.2.2.2.1
theorem texts_7 {t u : Nat} (H : isTexts t u) : sh[t + 7]? = some (.inl (0, u * 24)) := H.2.2.2.2.2.2.2.1
theorem texts_8 {t u : Nat} (H : isTexts t u) : sh[t + 8]? = some (.inl (1, u * 192)) := H.2.2.2.2.2.2.2.2
theorem isTold_26 : isTold 26 := ⟨rfl, rfl, rfl, rfl, rfl, rfl, rfl, rfl, rfl, rfl, rfl, rfl⟩
theorem isTold_38 : isTold 38 := ⟨rfl, rfl, rfl, rfl, rfl, rfl, rfl, rfl, rfl, rfl, rfl, rfl⟩
theorem isTold_65 : isTold 65 := ⟨rfl, rfl, rfl, rfl, rfl, rfl, rfl, rfl, rfl, rfl, rfl, rfl⟩
theorem isTexts_2 : isTexts 2 1 := ⟨rfl, rfl, rfl, rfl, rfl, rfl, rfl, rfl, rfl⟩
theorem isTexts_17 : isTexts 17 8 := ⟨rfl, rfl, rfl, rfl, rfl, rfl, rfl, rfl, rfl⟩
theorem isTexts_56 : isTexts 56 8 := ⟨rfl, rfl, rfl, rfl, rfl, rfl, rfl, rfl, rfl⟩
theorem hp_get {s : St} {a : Nat} {c : xCk} (h : sh[a]? = some c) : (hp s)[a]? = some (cel s a c) := by
  unfold hp
  rw [hps_get, h, Nat.zero_add]
  rfl
theorem hp_set {s t : St} {a : Nat} {c : xCk} {e : xE} (hl : sh[a]? = some c) (hne : ∀ b k, b ≠ a → t b k = s b k) (he : cel t a c = e) : (hp s).set a e = hp t := hps_set hl hne he
def bI (D : Option Rs) (K : St → Int → Option Rs) : Option Rs := D.bind (fun r => K r.1 r.2)
def bS (D : Option Rs) (K : St → Nat → Option Rs) : Option Rs := D.bind (fun r => K r.1 r.2.toNat)
def bV (D : Option Rs) (K : St → Option Rs) : Option Rs := D.bind (fun r => K r.1)
theorem xNdk (ks : List Nat) {L : xL} (h : L.map (fun q => q.1) = ks) (hn : ks.Nodup) : xNd L := by unfold xNd; rw [h]; exact hn
def qI (R : Rs) : xR := (some (vi R.2), hp R.1, 0, 0)
def qL (R : Rs) : xR := (some (vl R.2), hp R.1, 0, 0)
def qV (R : Rs) : xR := (none, hp R.1, 0, 0)
def qS (R : Rs) : xR := (some (.retAddr R.2.toNat), hp R.1, 0, 0)
abbrev vT (sc : xS) (d M pc : Nat) (L : xL) (st : List Value) (s : St) (Q : xR → Prop) : Prop := xT xg sc d M pc L st (hp s) Q
section VRU
variable {sc : xS} {d M pc : Nat} {L : xL} {st : List Value} {s : St} {Q : xR → Prop} {P : Prop} {R : Rs}
theorem vK (pc' : Nat) {n : Int} (hi : xIns xg M pc = some (.iconst n)) (hp' : pc + 1 = pc') (k : P → vT sc d M pc' L (vi n :: st) s Q) : P → vT sc d M pc L st s Q := fun p => wK pc' _ hi rfl hp' (k p)
theorem vKb (pc' : Nat) {n : Int} (hi : xIns xg M pc = some (.bipush n)) (hv : (Int8.ofInt n).toInt32 = Int32.ofInt n) (hp' : pc + 2 = pc') (k : P → vT sc d M pc' L (vi n :: st) s Q) : P → vT sc d M pc L st s Q := fun p => wKb pc' _ hi hv hp' (k p)
theorem vKs (pc' : Nat) {n : Int} (hi : xIns xg M pc = some (.sipush n)) (hv : (Int16.ofInt n).toInt32 = Int32.ofInt n) (hp' : pc + 3 = pc') (k : P → vT sc d M pc' L (vi n :: st) s Q) : P → vT sc d M pc L st s Q := fun p => wKs pc' _ hi hv hp' (k p)
theorem vKl (pc' : Nat) {n : Fin 2} (v : Int) (hi : xIns xg M pc = some (.lconst n)) (hv : Int64.ofNat (n : Nat) = Int64.ofInt v) (hp' : pc + 1 = pc') (k : P → vT sc d M pc' L (vl v :: st) s Q) : P → vT sc d M pc L st s Q := fun p => wKl pc' _ hi hv hp' (k p)
theorem vKc (pc' : Nat) {n : Nat} {v : Int} (hi : xIns xg M pc = some (.ldc n)) (hv : xCon xg M n = some (vi v)) (hp' : pc + 2 = pc') (k : P → vT sc d M pc' L (vi v :: st) s Q) : P → vT sc d M pc L st s Q := fun p => wKc pc' _ hi hv hp' (k p)
theorem vKd (pc' : Nat) {n : Nat} {v : Int} (hi : xIns xg M pc = some (.ldc2_w n)) (hv : xCon xg M n = some (vl v)) (hp' : pc + 3 = pc') (k : P → vT sc d M pc' L (vl v :: st) s Q) : P → vT sc d M pc L st s Q := fun p => wKd pc' _ hi hv hp' (k p)
theorem vLi (pc' : Nat) {n : Nat} {x : Int} (hi : xIns xg M pc = some (.iload n)) (hv : L.lookup n = some (vi x)) (hp' : pc + 2 = pc') (k : P → vT sc d M pc' L (vi x :: st) s Q) : P → vT sc d M pc L st s Q := fun p => wLi pc' hi hv hp' (k p)
theorem vLin (pc' : Nat) {n : Fin 4} {x : Int} (hi : xIns xg M pc = some (.iload_n n)) (hv : L.lookup n.val = some (vi x)) (hp' : pc + 1 = pc') (k : P → vT sc d M pc' L (vi x :: st) s Q) : P → vT sc d M pc L st s Q := fun p => wLin pc' hi hv hp' (k p)
theorem vLl (pc' : Nat) {n : Nat} {x : Int} (hi : xIns xg M pc = some (.lload n)) (hv : L.lookup n = some (vl x)) (hp' : pc + 2 = pc') (k : P → vT sc d M pc' L (vl x :: st) s Q) : P → vT sc d M pc L st s Q := fun p => wLl pc' hi hv hp' (k p)
theorem vLln (pc' : Nat) {n : Fin 4} {x : Int} (hi : xIns xg M pc = some (.lload_n n)) (hv : L.lookup n.val = some (vl x)) (hp' : pc + 1 = pc') (k : P → vT sc d M pc' L (vl x :: st) s Q) : P → vT sc d M pc L st s Q := fun p => wLln pc' hi hv hp' (k p)
theorem vLa (pc' : Nat) {n : Nat} {x : Nat} (hi : xIns xg M pc = some (.aload n)) (hv : L.lookup n = some (.ref x)) (hp' : pc + 2 = pc') (k : P → vT sc d M pc' L (.ref x :: st) s Q) : P → vT sc d M pc L st s Q := fun p => wLa pc' hi hv hp' (k p)
theorem vLan (pc' : Nat) {n : Fin 4} {x : Nat} (hi : xIns xg M pc = some (.aload_n n)) (hv : L.lookup n.val = some (.ref x)) (hp' : pc + 1 = pc') (k : P → vT sc d M pc' L (.ref x :: st) s Q) : P → vT sc d M pc L st s Q := fun p => wLan pc' hi hv hp' (k p)
theorem vLs (pc' : Nat) {n : Nat} {x : Nat} {K : Option Rs} (hi : xIns xg M pc = some (.aload n)) (hv : L.lookup n = some (.retAddr x)) (hp' : pc + 2 = pc') (k : K = some R → vT sc d M pc' L (.retAddr x :: st) s Q) : (if x = 1000 then none else K) = some R → vT sc d M pc L st s Q := fun p => by
  by_cases hx : x = 1000
  · rw [if_pos hx] at p; cases p
  · rw [if_neg hx] at p; exact wLs pc' hi hv hx hp' (k p)
theorem vLsn (pc' : Nat) {n : Fin 4} {x : Nat} {K : Option Rs} (hi : xIns xg M pc = some (.aload_n n)) (hv : L.lookup n.val = some (.retAddr x)) (hp' : pc + 1 = pc') (k : K = some R → vT sc d M pc' L (.retAddr x :: st) s Q) : (if x = 1000 then none else K) = some R → vT sc d M pc L st s Q := fun p => by
  by_cases hx : x = 1000
  · rw [if_pos hx] at p; cases p
  · rw [if_neg hx] at p; exact wLsn pc' hi hv hx hp' (k p)
theorem vLs0 (pc' : Nat) {n : Nat} {x : Nat} (hx : ¬ x = 1000) (hi : xIns xg M pc = some (.aload n)) (hv : L.lookup n = some (.retAddr x)) (hp' : pc + 2 = pc') (k : P → vT sc d M pc' L (.retAddr x :: st) s Q) : P → vT sc d M pc L st s Q := fun p => wLs pc' hi hv hx hp' (k p)
theorem vLsn0 (pc' : Nat) {n : Fin 4} {x : Nat} (hx : ¬ x = 1000) (hi : xIns xg M pc = some (.aload_n n)) (hv : L.lookup n.val = some (.retAddr x)) (hp' : pc + 1 = pc') (k : P → vT sc d M pc' L (.retAddr x :: st) s Q) : P → vT sc d M pc L st s Q := fun p => wLsn pc' hi hv hx hp' (k p)
theorem vSi (pc' : Nat) (L' : Int → xL) {n nL : Nat} {rt : Option FieldType} {x : Int} {K : Int → Option Rs} (hi : xIns xg M pc = some (.istore n)) (hm : (xMet xg M).2.2 = (nL, rt)) (hn : n < nL) (hl : ∀ x, xst1 L n (vi x) = L' x) (hp' : pc + 2 = pc') (k : ∀ x, K x = some R → vT sc d M pc' (L' x) st s Q) : bd x K = some R → vT sc d M pc L (vi x :: st) s Q := fun p => wSi pc' (L' x) hi hm hn (hl x) hp' (k x p)
theorem vSin (pc' : Nat) (L' : Int → xL) {n : Fin 4} {nL : Nat} {rt : Option FieldType} {x : Int} {K : Int → Option Rs} (hi : xIns xg M pc = some (.istore_n n)) (hm : (xMet xg M).2.2 = (nL, rt)) (hn : n.val < nL) (hl : ∀ x, xst1 L n.val (vi x) = L' x) (hp' : pc + 1 = pc') (k : ∀ x, K x = some R → vT sc d M pc' (L' x) st s Q) : bd x K = some R → vT sc d M pc L (vi x :: st) s Q := fun p => wSin pc' (L' x) hi hm hn (hl x) hp' (k x p)
theorem vSl (pc' : Nat) (L' : Int → xL) {n nL : Nat} {rt : Option FieldType} {x : Int} {K : Int → Option Rs} (hi : xIns xg M pc = some (.lstore n)) (hm : (xMet xg M).2.2 = (nL, rt)) (hn : n + 1 < nL) (hl : ∀ x, xst2 L n (vl x) = L' x) (hp' : pc + 2 = pc') (k : ∀ x, K x = some R → vT sc d M pc' (L' x) st s Q) : bd x K = some R → vT sc d M pc L (vl x :: st) s Q := fun p => wSl pc' (L' x) hi hm hn (hl x) hp' (k x p)
theorem vSln (pc' : Nat) (L' : Int → xL) {n : Fin 4} {nL : Nat} {rt : Option FieldType} {x : Int} {K : Int → Option Rs} (hi : xIns xg M pc = some (.lstore_n n)) (hm : (xMet xg M).2.2 = (nL, rt)) (hn : n.val + 1 < nL) (hl : ∀ x, xst2 L n.val (vl x) = L' x) (hp' : pc + 1 = pc') (k : ∀ x, K x = some R → vT sc d M pc' (L' x) st s Q) : bd x K = some R → vT sc d M pc L (vl x :: st) s Q := fun p => wSln pc' (L' x) hi hm hn (hl x) hp' (k x p)
theorem vSx (pc' : Nat) (L' : Nat → xL) {n nL : Nat} {rt : Option FieldType} {x : Nat} {K : Nat → Option Rs} (hi : xIns xg M pc = some (.astore n)) (hm : (xMet xg M).2.2 = (nL, rt)) (hn : n < nL) (hl : ∀ x, xst1 L n (.retAddr x) = L' x) (hp' : pc + 2 = pc') (k : ∀ x, K x = some R → vT sc d M pc' (L' x) st s Q) : (if x = 1000 then none else bd x K) = some R → vT sc d M pc L (.retAddr x :: st) s Q := fun p => by
  by_cases hx : x = 1000
  · rw [if_pos hx] at p; cases p
  · rw [if_neg hx] at p; exact wSx pc' (L' x) hi hm hn hx (hl x) hp' (k x p)
theorem vSxn (pc' : Nat) (L' : Nat → xL) {n : Fin 4} {nL : Nat} {rt : Option FieldType} {x : Nat} {K : Nat → Option Rs} (hi : xIns xg M pc = some (.astore_n n)) (hm : (xMet xg M).2.2 = (nL, rt)) (hn : n.val < nL) (hl : ∀ x, xst1 L n.val (.retAddr x) = L' x) (hp' : pc + 1 = pc') (k : ∀ x, K x = some R → vT sc d M pc' (L' x) st s Q) : (if x = 1000 then none else bd x K) = some R → vT sc d M pc L (.retAddr x :: st) s Q := fun p => by
  by_cases hx : x = 1000
  · rw [if_pos hx] at p; cases p
  · rw [if_neg hx] at p; exact wSxn pc' (L' x) hi hm hn hx (hl x) hp' (k x p)
theorem vInc (pc' : Nat) (L' : Int → xL) {n nL : Nat} {c : Int} {rt : Option FieldType} {x : Int} {K : Int → Option Rs} (hi : xIns xg M pc = some (.iinc n c)) (hm : (xMet xg M).2.2 = (nL, rt)) (hn : n < nL) (hv : L.lookup n = some (vi x)) (hl : ∀ x, xst1 L n (vi x) = L' x) (hp' : pc + 3 = pc') (k : ∀ x, K x = some R → vT sc d M pc' (L' x) st s Q) : bd (x + c) K = some R → vT sc d M pc L st s Q := fun p => wInc pc' (L' (x + c)) (Int32.ofInt (x + c)) hi hm hn hv (i32_add x c) (hl _) hp' (k _ p)
theorem vD (pc' : Nat) {i : Instr} {st' : List Value} (hi : xIns xg M pc = some i) (hs : xsort i = 2) (h1 : xs1d i st = some st') (hp' : pc + 1 = pc') (k : P → vT sc d M pc' L st' s Q) : P → vT sc d M pc L st s Q := fun p => wD pc' hi hs h1 hp' (k p)
theorem vIadd (pc' : Nat) {x y : Int} (hi : xIns xg M pc = some .iadd) (hp' : pc + 1 = pc') (k : P → vT sc d M pc' L (vi (x + y) :: st) s Q) : P → vT sc d M pc L (vi y :: vi x :: st) s Q := fun p => wA pc' hi rfl rfl hp' (by rw [i32_add]; exact k p)
theorem vIsub (pc' : Nat) {x y : Int} (hi : xIns xg M pc = some .isub) (hp' : pc + 1 = pc') (k : P → vT sc d M pc' L (vi (x - y) :: st) s Q) : P → vT sc d M pc L (vi y :: vi x :: st) s Q := fun p => wA pc' hi rfl rfl hp' (by rw [i32_sub]; exact k p)
theorem vImul (pc' : Nat) {x y : Int} (hi : xIns xg M pc = some .imul) (hp' : pc + 1 = pc') (k : P → vT sc d M pc' L (vi (x * y) :: st) s Q) : P → vT sc d M pc L (vi y :: vi x :: st) s Q := fun p => wA pc' hi rfl rfl hp' (by rw [i32_mul]; exact k p)
theorem vLadd (pc' : Nat) {x y : Int} (hi : xIns xg M pc = some .ladd) (hp' : pc + 1 = pc') (k : P → vT sc d M pc' L (vl (x + y) :: st) s Q) : P → vT sc d M pc L (vl y :: vl x :: st) s Q := fun p => wA pc' hi rfl rfl hp' (by rw [i64_add]; exact k p)
theorem vLsub (pc' : Nat) {x y : Int} (hi : xIns xg M pc = some .lsub) (hp' : pc + 1 = pc') (k : P → vT sc d M pc' L (vl (x - y) :: st) s Q) : P → vT sc d M pc L (vl y :: vl x :: st) s Q := fun p => wA pc' hi rfl rfl hp' (by rw [i64_sub]; exact k p)
theorem vLmul (pc' : Nat) {x y : Int} (hi : xIns xg M pc = some .lmul) (hp' : pc + 1 = pc') (k : P → vT sc d M pc' L (vl (x * y) :: st) s Q) : P → vT sc d M pc L (vl y :: vl x :: st) s Q := fun p => wA pc' hi rfl rfl hp' (by rw [i64_mul]; exact k p)
theorem vIand (pc' : Nat) {x y : Int} (hi : xIns xg M pc = some .iand) (hp' : pc + 1 = pc') (k : P → vT sc d M pc' L (vi (and32 x y) :: st) s Q) : P → vT sc d M pc L (vi y :: vi x :: st) s Q := fun p => wA pc' hi rfl rfl hp' (by have k := k p; unfold and32 at k; rw [vT, vi, Int32.ofInt_toInt] at k; exact k)
theorem vIor (pc' : Nat) {x y : Int} (hi : xIns xg M pc = some .ior) (hp' : pc + 1 = pc') (k : P → vT sc d M pc' L (vi (or32 x y) :: st) s Q) : P → vT sc d M pc L (vi y :: vi x :: st) s Q := fun p => wA pc' hi rfl rfl hp' (by have k := k p; unfold or32 at k; rw [vT, vi, Int32.ofInt_toInt] at k; exact k)
theorem vIshl (pc' : Nat) {x y : Int} (hi : xIns xg M pc = some .ishl) (hp' : pc + 1 = pc') (k : P → vT sc d M pc' L (vi (shl32 x y) :: st) s Q) : P → vT sc d M pc L (vi y :: vi x :: st) s Q := fun p => wA pc' hi rfl rfl hp' (by have k := k p; unfold shl32 at k; rw [vT, vi, Int32.ofInt_toInt] at k; exact k)
theorem vIshr (pc' : Nat) {x y : Int} (hi : xIns xg M pc = some .ishr) (hp' : pc + 1 = pc') (k : P → vT sc d M pc' L (vi (shr32 x y) :: st) s Q) : P → vT sc d M pc L (vi y :: vi x :: st) s Q := fun p => wA pc' hi rfl rfl hp' (by have k := k p; unfold shr32 at k; rw [vT, vi, Int32.ofInt_toInt] at k; exact k)
theorem vLand (pc' : Nat) {x y : Int} (hi : xIns xg M pc = some .land) (hp' : pc + 1 = pc') (k : P → vT sc d M pc' L (vl (and64 x y) :: st) s Q) : P → vT sc d M pc L (vl y :: vl x :: st) s Q := fun p => wA pc' hi rfl rfl hp' (by have k := k p; unfold and64 at k; rw [vT, vl, Int64.ofInt_toInt] at k; exact k)
theorem vLor (pc' : Nat) {x y : Int} (hi : xIns xg M pc = some .lor) (hp' : pc + 1 = pc') (k : P → vT sc d M pc' L (vl (or64 x y) :: st) s Q) : P → vT sc d M pc L (vl y :: vl x :: st) s Q := fun p => wA pc' hi rfl rfl hp' (by have k := k p; unfold or64 at k; rw [vT, vl, Int64.ofInt_toInt] at k; exact k)
theorem vLshl (pc' : Nat) {x y : Int} (hi : xIns xg M pc = some .lshl) (hp' : pc + 1 = pc') (k : P → vT sc d M pc' L (vl (shl64 x y) :: st) s Q) : P → vT sc d M pc L (vi y :: vl x :: st) s Q := fun p => wA pc' hi rfl rfl hp' (by have k := k p; unfold shl64 at k; rw [vT, vl, Int64.ofInt_toInt] at k; exact k)
theorem vIneg (pc' : Nat) {x : Int} (hi : xIns xg M pc = some .ineg) (hp' : pc + 1 = pc') (k : P → vT sc d M pc' L (vi (-x) :: st) s Q) : P → vT sc d M pc L (vi x :: st) s Q := fun p => wA pc' hi rfl rfl hp' (by rw [i32_neg]; exact k p)
theorem vLneg (pc' : Nat) {x : Int} (hi : xIns xg M pc = some .lneg) (hp' : pc + 1 = pc') (k : P → vT sc d M pc' L (vl (-x) :: st) s Q) : P → vT sc d M pc L (vl x :: st) s Q := fun p => wA pc' hi rfl rfl hp' (by rw [i64_neg]; exact k p)
theorem vI2l (pc' : Nat) {x : Int} (hi : xIns xg M pc = some .i2l) (hp' : pc + 1 = pc') (k : P → vT sc d M pc' L (vl (w32 x) :: st) s Q) : P → vT sc d M pc L (vi x :: st) s Q := fun p => wA pc' hi rfl rfl hp' (by rw [i32_to64]; exact k p)
theorem vL2i (pc' : Nat) {x : Int} (hi : xIns xg M pc = some .l2i) (hp' : pc + 1 = pc') (k : P → vT sc d M pc' L (vi x :: st) s Q) : P → vT sc d M pc L (vl x :: st) s Q := fun p => wA pc' hi rfl rfl hp' (by rw [i64_to32]; exact k p)
theorem vI2b (pc' : Nat) {x : Int} (hi : xIns xg M pc = some .i2b) (hp' : pc + 1 = pc') (k : P → vT sc d M pc' L (vi (w8 x) :: st) s Q) : P → vT sc d M pc L (vi x :: st) s Q := fun p => wA pc' hi rfl rfl hp' (by rw [i32_b]; exact k p)
theorem vI2c (pc' : Nat) {x : Int} (hi : xIns xg M pc = some .i2c) (hp' : pc + 1 = pc') (k : P → vT sc d M pc' L (vi (c16 x) :: st) s Q) : P → vT sc d M pc L (vi x :: st) s Q := fun p => wA pc' hi rfl rfl hp' (by have k := k p; unfold c16 at k; rw [vT, vi, Int32.ofInt_toInt] at k; exact k)
theorem n32_0 {y : Int} (h : ¬ w32 y = 0) : ¬ Int32.ofInt y = 0 := fun z => h (by rw [zi32] at z; exact i32_eq.mp z)
theorem n64_0 {y : Int} (h : ¬ w64 y = 0) : ¬ Int64.ofInt y = 0 := fun z => h (by rw [zi64] at z; exact i64_eq.mp z)
theorem vIdiv (pc' : Nat) {x y x' y' : Int} {K : Option Rs} (hx : w32 x = x') (hy : w32 y = y') (hi : xIns xg M pc = some .idiv) (hp' : pc + 1 = pc') (k : K = some R → vT sc d M pc' L (vi (x'.tdiv y') :: st) s Q) : (if y' = 0 then none else K) = some R → vT sc d M pc L (vi y :: vi x :: st) s Q := fun p => by
  subst hx; subst hy
  by_cases h : w32 y = 0
  · rw [if_pos h] at p; cases p
  · rw [if_neg h] at p; exact wA pc' hi rfl (st' := vi ((w32 x).tdiv (w32 y)) :: st) (by simp only [xs1, n32_0 h, if_false, i32_div]) hp' (k p)
theorem vIrem (pc' : Nat) {x y x' y' : Int} {K : Option Rs} (hx : w32 x = x') (hy : w32 y = y') (hi : xIns xg M pc = some .irem) (hp' : pc + 1 = pc') (k : K = some R → vT sc d M pc' L (vi (x'.tmod y') :: st) s Q) : (if y' = 0 then none else K) = some R → vT sc d M pc L (vi y :: vi x :: st) s Q := fun p => by
  subst hx; subst hy
  by_cases h : w32 y = 0
  · rw [if_pos h] at p; cases p
  · rw [if_neg h] at p; exact wA pc' hi rfl (st' := vi ((w32 x).tmod (w32 y)) :: st) (by simp only [xs1, n32_0 h, if_false, i32_rem]) hp' (k p)
theorem vLdiv (pc' : Nat) {x y x' y' : Int} {K : Option Rs} (hx : w64 x = x') (hy : w64 y = y') (hi : xIns xg M pc = some .ldiv) (hp' : pc + 1 = pc') (k : K = some R → vT sc d M pc' L (vl (x'.tdiv y') :: st) s Q) : (if y' = 0 then none else K) = some R → vT sc d M pc L (vl y :: vl x :: st) s Q := fun p => by
  subst hx; subst hy
  by_cases h : w64 y = 0
  · rw [if_pos h] at p; cases p
  · rw [if_neg h] at p; exact wA pc' hi rfl (st' := vl ((w64 x).tdiv (w64 y)) :: st) (by simp only [xs1, n64_0 h, if_false, i64_div]) hp' (k p)
theorem vLrem (pc' : Nat) {x y x' y' : Int} {K : Option Rs} (hx : w64 x = x') (hy : w64 y = y') (hi : xIns xg M pc = some .lrem) (hp' : pc + 1 = pc') (k : K = some R → vT sc d M pc' L (vl (x'.tmod y') :: st) s Q) : (if y' = 0 then none else K) = some R → vT sc d M pc L (vl y :: vl x :: st) s Q := fun p => by
  subst hx; subst hy
  by_cases h : w64 y = 0
  · rw [if_pos h] at p; cases p
  · rw [if_neg h] at p; exact wA pc' hi rfl (st' := vl ((w64 x).tmod (w64 y)) :: st) (by simp only [xs1, n64_0 h, if_false, i64_rem]) hp' (k p)
theorem vGo (pc' : Nat) {off : Int} (hi : xIns xg M pc = some (.goto off)) (hj : xjmp pc off = some pc') (k : P → vT sc d M pc' L st s Q) : P → vT sc d M pc L st s Q := fun p => wGo pc' hi hj (k p)
theorem vCeq (t pc' : Nat) {off : Int} {x y x' y' : Int} {Dt Df : Option Rs} (hx : w32 x = x') (hy : w32 y = y') (hi : xIns xg M pc = some (.if_icmp .eq off)) (hj : xjmp pc off = some t) (hp' : pc + 3 = pc') (kt : Dt = some R → vT sc d M t L st s Q) (kf : Df = some R → vT sc d M pc' L st s Q) : (if x' = y' then Dt else Df) = some R → vT sc d M pc L (vi y :: vi x :: st) s Q := fun p => by
  subst hx; subst hy
  by_cases h : w32 x = w32 y
  · rw [if_pos h] at p; exact wCT t hi hj (decide_eq_true (i32_eq.mpr h)) (kt p)
  · rw [if_neg h] at p; exact wCF t pc' hi hj (decide_eq_false (fun z => h (i32_eq.mp z))) hp' (kf p)
theorem vZeq (t pc' : Nat) {off : Int} {x x' : Int} {Dt Df : Option Rs} (hx : w32 x = x') (hi : xIns xg M pc = some (.ifCond .eq off)) (hj : xjmp pc off = some t) (hp' : pc + 3 = pc') (kt : Dt = some R → vT sc d M t L st s Q) (kf : Df = some R → vT sc d M pc' L st s Q) : (if x' = 0 then Dt else Df) = some R → vT sc d M pc L (vi x :: st) s Q := fun p => by
  subst hx
  by_cases h : w32 x = 0
  · rw [if_pos h] at p; rw [← w32_0] at h; exact wZT t hi hj (decide_eq_true (i32_eq.mpr h)) (kt p)
  · rw [if_neg h] at p; rw [← w32_0] at h; exact wZF t pc' hi hj (decide_eq_false (fun z => h (i32_eq.mp z))) hp' (kf p)
theorem vLceq (t pc1 pc' : Nat) {off : Int} {x y x' y' : Int} {Dt Df : Option Rs} (hx : w64 x = x') (hy : w64 y = y') (hi0 : xIns xg M pc = some .lcmp) (hp0 : pc + 1 = pc1) (hi : xIns xg M pc1 = some (.ifCond .eq off)) (hj : xjmp pc1 off = some t) (hp' : pc1 + 3 = pc') (kt : Dt = some R → vT sc d M t L st s Q) (kf : Df = some R → vT sc d M pc' L st s Q) : (if x' = y' then Dt else Df) = some R → vT sc d M pc L (vl y :: vl x :: st) s Q := fun p => by
  subst hx; subst hy
  refine wA pc1 hi0 rfl rfl hp0 ?_
  rcases Int.lt_trichotomy (w64 x) (w64 y) with h | h | h
  · rw [if_neg (show ¬ (w64 x = w64 y) by omega)] at p
    rw [lgc_lt h]
    exact wZF t pc' hi hj (by decide) hp' (kf p)
  · rw [if_pos (show w64 x = w64 y by omega)] at p
    rw [lgc_eq h]
    exact wZT t hi hj (by decide) (kt p)
  · rw [if_neg (show ¬ (w64 x = w64 y) by omega)] at p
    rw [lgc_gt h]
    exact wZF t pc' hi hj (by decide) hp' (kf p)
theorem vCne (t pc' : Nat) {off : Int} {x y x' y' : Int} {Dt Df : Option Rs} (hx : w32 x = x') (hy : w32 y = y') (hi : xIns xg M pc = some (.if_icmp .ne off)) (hj : xjmp pc off = some t) (hp' : pc + 3 = pc') (kt : Dt = some R → vT sc d M t L st s Q) (kf : Df = some R → vT sc d M pc' L st s Q) : (if x' = y' then Df else Dt) = some R → vT sc d M pc L (vi y :: vi x :: st) s Q := fun p => by
  subst hx; subst hy
  by_cases h : w32 x = w32 y
  · rw [if_pos h] at p; exact wCF t pc' hi hj (decide_eq_false (fun z => z (i32_eq.mpr h))) hp' (kf p)
  · rw [if_neg h] at p; exact wCT t hi hj (decide_eq_true (fun z => h (i32_eq.mp z))) (kt p)
theorem vZne (t pc' : Nat) {off : Int} {x x' : Int} {Dt Df : Option Rs} (hx : w32 x = x') (hi : xIns xg M pc = some (.ifCond .ne off)) (hj : xjmp pc off = some t) (hp' : pc + 3 = pc') (kt : Dt = some R → vT sc d M t L st s Q) (kf : Df = some R → vT sc d M pc' L st s Q) : (if x' = 0 then Df else Dt) = some R → vT sc d M pc L (vi x :: st) s Q := fun p => by
  subst hx
  by_cases h : w32 x = 0
  · rw [if_pos h] at p; rw [← w32_0] at h; exact wZF t pc' hi hj (decide_eq_false (fun z => z (i32_eq.mpr h))) hp' (kf p)
  · rw [if_neg h] at p; rw [← w32_0] at h; exact wZT t hi hj (decide_eq_true (fun z => h (i32_eq.mp z))) (kt p)
theorem vLcne (t pc1 pc' : Nat) {off : Int} {x y x' y' : Int} {Dt Df : Option Rs} (hx : w64 x = x') (hy : w64 y = y') (hi0 : xIns xg M pc = some .lcmp) (hp0 : pc + 1 = pc1) (hi : xIns xg M pc1 = some (.ifCond .ne off)) (hj : xjmp pc1 off = some t) (hp' : pc1 + 3 = pc') (kt : Dt = some R → vT sc d M t L st s Q) (kf : Df = some R → vT sc d M pc' L st s Q) : (if x' = y' then Df else Dt) = some R → vT sc d M pc L (vl y :: vl x :: st) s Q := fun p => by
  subst hx; subst hy
  refine wA pc1 hi0 rfl rfl hp0 ?_
  rcases Int.lt_trichotomy (w64 x) (w64 y) with h | h | h
  · rw [if_neg (show ¬ (w64 x = w64 y) by omega)] at p
    rw [lgc_lt h]
    exact wZT t hi hj (by decide) (kt p)
  · rw [if_pos (show w64 x = w64 y by omega)] at p
    rw [lgc_eq h]
    exact wZF t pc' hi hj (by decide) hp' (kf p)
  · rw [if_neg (show ¬ (w64 x = w64 y) by omega)] at p
    rw [lgc_gt h]
    exact wZT t hi hj (by decide) (kt p)
theorem vClt (t pc' : Nat) {off : Int} {x y x' y' : Int} {Dt Df : Option Rs} (hx : w32 x = x') (hy : w32 y = y') (hi : xIns xg M pc = some (.if_icmp .lt off)) (hj : xjmp pc off = some t) (hp' : pc + 3 = pc') (kt : Dt = some R → vT sc d M t L st s Q) (kf : Df = some R → vT sc d M pc' L st s Q) : (if x' < y' then Dt else Df) = some R → vT sc d M pc L (vi y :: vi x :: st) s Q := fun p => by
  subst hx; subst hy
  by_cases h : w32 x < w32 y
  · rw [if_pos h] at p; exact wCT t hi hj (decide_eq_true (i32_lt.mpr h)) (kt p)
  · rw [if_neg h] at p; exact wCF t pc' hi hj (decide_eq_false (fun z => h (i32_lt.mp z))) hp' (kf p)
theorem vZlt (t pc' : Nat) {off : Int} {x x' : Int} {Dt Df : Option Rs} (hx : w32 x = x') (hi : xIns xg M pc = some (.ifCond .lt off)) (hj : xjmp pc off = some t) (hp' : pc + 3 = pc') (kt : Dt = some R → vT sc d M t L st s Q) (kf : Df = some R → vT sc d M pc' L st s Q) : (if x' < 0 then Dt else Df) = some R → vT sc d M pc L (vi x :: st) s Q := fun p => by
  subst hx
  by_cases h : w32 x < 0
  · rw [if_pos h] at p; rw [← w32_0] at h; exact wZT t hi hj (decide_eq_true (i32_lt.mpr h)) (kt p)
  · rw [if_neg h] at p; rw [← w32_0] at h; exact wZF t pc' hi hj (decide_eq_false (fun z => h (i32_lt.mp z))) hp' (kf p)
theorem vLclt (t pc1 pc' : Nat) {off : Int} {x y x' y' : Int} {Dt Df : Option Rs} (hx : w64 x = x') (hy : w64 y = y') (hi0 : xIns xg M pc = some .lcmp) (hp0 : pc + 1 = pc1) (hi : xIns xg M pc1 = some (.ifCond .lt off)) (hj : xjmp pc1 off = some t) (hp' : pc1 + 3 = pc') (kt : Dt = some R → vT sc d M t L st s Q) (kf : Df = some R → vT sc d M pc' L st s Q) : (if x' < y' then Dt else Df) = some R → vT sc d M pc L (vl y :: vl x :: st) s Q := fun p => by
  subst hx; subst hy
  refine wA pc1 hi0 rfl rfl hp0 ?_
  rcases Int.lt_trichotomy (w64 x) (w64 y) with h | h | h
  · rw [if_pos (show w64 x < w64 y by omega)] at p
    rw [lgc_lt h]
    exact wZT t hi hj (by decide) (kt p)
  · rw [if_neg (show ¬ (w64 x < w64 y) by omega)] at p
    rw [lgc_eq h]
    exact wZF t pc' hi hj (by decide) hp' (kf p)
  · rw [if_neg (show ¬ (w64 x < w64 y) by omega)] at p
    rw [lgc_gt h]
    exact wZF t pc' hi hj (by decide) hp' (kf p)
theorem vCge (t pc' : Nat) {off : Int} {x y x' y' : Int} {Dt Df : Option Rs} (hx : w32 x = x') (hy : w32 y = y') (hi : xIns xg M pc = some (.if_icmp .ge off)) (hj : xjmp pc off = some t) (hp' : pc + 3 = pc') (kt : Dt = some R → vT sc d M t L st s Q) (kf : Df = some R → vT sc d M pc' L st s Q) : (if x' < y' then Df else Dt) = some R → vT sc d M pc L (vi y :: vi x :: st) s Q := fun p => by
  subst hx; subst hy
  by_cases h : w32 x < w32 y
  · rw [if_pos h] at p; exact wCF t pc' hi hj (decide_eq_false (fun z => by have z := i32_le.mp z; omega)) hp' (kf p)
  · rw [if_neg h] at p; exact wCT t hi hj (decide_eq_true (i32_le.mpr (by omega))) (kt p)
theorem vZge (t pc' : Nat) {off : Int} {x x' : Int} {Dt Df : Option Rs} (hx : w32 x = x') (hi : xIns xg M pc = some (.ifCond .ge off)) (hj : xjmp pc off = some t) (hp' : pc + 3 = pc') (kt : Dt = some R → vT sc d M t L st s Q) (kf : Df = some R → vT sc d M pc' L st s Q) : (if x' < 0 then Df else Dt) = some R → vT sc d M pc L (vi x :: st) s Q := fun p => by
  subst hx
  by_cases h : w32 x < 0
  · rw [if_pos h] at p; rw [← w32_0] at h; exact wZF t pc' hi hj (decide_eq_false (fun z => by have z := (i32_le (x := 0) (y := x)).mp z; omega)) hp' (kf p)
  · rw [if_neg h] at p; rw [← w32_0] at h; exact wZT t hi hj (decide_eq_true ((i32_le (x := 0) (y := x)).mpr (by omega))) (kt p)
theorem vLcge (t pc1 pc' : Nat) {off : Int} {x y x' y' : Int} {Dt Df : Option Rs} (hx : w64 x = x') (hy : w64 y = y') (hi0 : xIns xg M pc = some .lcmp) (hp0 : pc + 1 = pc1) (hi : xIns xg M pc1 = some (.ifCond .ge off)) (hj : xjmp pc1 off = some t) (hp' : pc1 + 3 = pc') (kt : Dt = some R → vT sc d M t L st s Q) (kf : Df = some R → vT sc d M pc' L st s Q) : (if x' < y' then Df else Dt) = some R → vT sc d M pc L (vl y :: vl x :: st) s Q := fun p => by
  subst hx; subst hy
  refine wA pc1 hi0 rfl rfl hp0 ?_
  rcases Int.lt_trichotomy (w64 x) (w64 y) with h | h | h
  · rw [if_pos (show w64 x < w64 y by omega)] at p
    rw [lgc_lt h]
    exact wZF t pc' hi hj (by decide) hp' (kf p)
  · rw [if_neg (show ¬ (w64 x < w64 y) by omega)] at p
    rw [lgc_eq h]
    exact wZT t hi hj (by decide) (kt p)
  · rw [if_neg (show ¬ (w64 x < w64 y) by omega)] at p
    rw [lgc_gt h]
    exact wZT t hi hj (by decide) (kt p)
theorem vCgt (t pc' : Nat) {off : Int} {x y x' y' : Int} {Dt Df : Option Rs} (hx : w32 x = x') (hy : w32 y = y') (hi : xIns xg M pc = some (.if_icmp .gt off)) (hj : xjmp pc off = some t) (hp' : pc + 3 = pc') (kt : Dt = some R → vT sc d M t L st s Q) (kf : Df = some R → vT sc d M pc' L st s Q) : (if y' < x' then Dt else Df) = some R → vT sc d M pc L (vi y :: vi x :: st) s Q := fun p => by
  subst hx; subst hy
  by_cases h : w32 y < w32 x
  · rw [if_pos h] at p; exact wCT t hi hj (decide_eq_true (i32_lt.mpr h)) (kt p)
  · rw [if_neg h] at p; exact wCF t pc' hi hj (decide_eq_false (fun z => h (i32_lt.mp z))) hp' (kf p)
theorem vZgt (t pc' : Nat) {off : Int} {x x' : Int} {Dt Df : Option Rs} (hx : w32 x = x') (hi : xIns xg M pc = some (.ifCond .gt off)) (hj : xjmp pc off = some t) (hp' : pc + 3 = pc') (kt : Dt = some R → vT sc d M t L st s Q) (kf : Df = some R → vT sc d M pc' L st s Q) : (if 0 < x' then Dt else Df) = some R → vT sc d M pc L (vi x :: st) s Q := fun p => by
  subst hx
  by_cases h : 0 < w32 x
  · rw [if_pos h] at p; rw [← w32_0] at h; exact wZT t hi hj (decide_eq_true (i32_lt.mpr h)) (kt p)
  · rw [if_neg h] at p; rw [← w32_0] at h; exact wZF t pc' hi hj (decide_eq_false (fun z => h (i32_lt.mp z))) hp' (kf p)
theorem vLcgt (t pc1 pc' : Nat) {off : Int} {x y x' y' : Int} {Dt Df : Option Rs} (hx : w64 x = x') (hy : w64 y = y') (hi0 : xIns xg M pc = some .lcmp) (hp0 : pc + 1 = pc1) (hi : xIns xg M pc1 = some (.ifCond .gt off)) (hj : xjmp pc1 off = some t) (hp' : pc1 + 3 = pc') (kt : Dt = some R → vT sc d M t L st s Q) (kf : Df = some R → vT sc d M pc' L st s Q) : (if y' < x' then Dt else Df) = some R → vT sc d M pc L (vl y :: vl x :: st) s Q := fun p => by
  subst hx; subst hy
  refine wA pc1 hi0 rfl rfl hp0 ?_
  rcases Int.lt_trichotomy (w64 x) (w64 y) with h | h | h
  · rw [if_neg (show ¬ (w64 y < w64 x) by omega)] at p
    rw [lgc_lt h]
    exact wZF t pc' hi hj (by decide) hp' (kf p)
  · rw [if_neg (show ¬ (w64 y < w64 x) by omega)] at p
    rw [lgc_eq h]
    exact wZF t pc' hi hj (by decide) hp' (kf p)
  · rw [if_pos (show w64 y < w64 x by omega)] at p
    rw [lgc_gt h]
    exact wZT t hi hj (by decide) (kt p)
theorem vCle (t pc' : Nat) {off : Int} {x y x' y' : Int} {Dt Df : Option Rs} (hx : w32 x = x') (hy : w32 y = y') (hi : xIns xg M pc = some (.if_icmp .le off)) (hj : xjmp pc off = some t) (hp' : pc + 3 = pc') (kt : Dt = some R → vT sc d M t L st s Q) (kf : Df = some R → vT sc d M pc' L st s Q) : (if y' < x' then Df else Dt) = some R → vT sc d M pc L (vi y :: vi x :: st) s Q := fun p => by
  subst hx; subst hy
  by_cases h : w32 y < w32 x
  · rw [if_pos h] at p; exact wCF t pc' hi hj (decide_eq_false (fun z => by have z := i32_le.mp z; omega)) hp' (kf p)
  · rw [if_neg h] at p; exact wCT t hi hj (decide_eq_true (i32_le.mpr (by omega))) (kt p)
theorem vZle (t pc' : Nat) {off : Int} {x x' : Int} {Dt Df : Option Rs} (hx : w32 x = x') (hi : xIns xg M pc = some (.ifCond .le off)) (hj : xjmp pc off = some t) (hp' : pc + 3 = pc') (kt : Dt = some R → vT sc d M t L st s Q) (kf : Df = some R → vT sc d M pc' L st s Q) : (if 0 < x' then Df else Dt) = some R → vT sc d M pc L (vi x :: st) s Q := fun p => by
  subst hx
  by_cases h : 0 < w32 x
  · rw [if_pos h] at p; rw [← w32_0] at h; exact wZF t pc' hi hj (decide_eq_false (fun z => by have z := (i32_le (x := x) (y := 0)).mp z; omega)) hp' (kf p)
  · rw [if_neg h] at p; rw [← w32_0] at h; exact wZT t hi hj (decide_eq_true ((i32_le (x := x) (y := 0)).mpr (by omega))) (kt p)
theorem vLcle (t pc1 pc' : Nat) {off : Int} {x y x' y' : Int} {Dt Df : Option Rs} (hx : w64 x = x') (hy : w64 y = y') (hi0 : xIns xg M pc = some .lcmp) (hp0 : pc + 1 = pc1) (hi : xIns xg M pc1 = some (.ifCond .le off)) (hj : xjmp pc1 off = some t) (hp' : pc1 + 3 = pc') (kt : Dt = some R → vT sc d M t L st s Q) (kf : Df = some R → vT sc d M pc' L st s Q) : (if y' < x' then Df else Dt) = some R → vT sc d M pc L (vl y :: vl x :: st) s Q := fun p => by
  subst hx; subst hy
  refine wA pc1 hi0 rfl rfl hp0 ?_
  rcases Int.lt_trichotomy (w64 x) (w64 y) with h | h | h
  · rw [if_neg (show ¬ (w64 y < w64 x) by omega)] at p
    rw [lgc_lt h]
    exact wZT t hi hj (by decide) (kt p)
  · rw [if_neg (show ¬ (w64 y < w64 x) by omega)] at p
    rw [lgc_eq h]
    exact wZT t hi hj (by decide) (kt p)
  · rw [if_pos (show w64 y < w64 x by omega)] at p
    rw [lgc_gt h]
    exact wZF t pc' hi hj (by decide) hp' (kf p)
theorem vSw (t : Nat) {dd lo hi0 v : Int} {offs : Array Int} {x x' : Int} {D1 D2 : Option Rs} (hx : w32 x = x') (hi : xIns xg M pc = some (.tableswitch dd lo hi0 offs)) (h1 : xs3 pc (.tableswitch dd lo hi0 offs) (vi v :: st) = some (t, st)) (hv : w32 v = v) (kt : D1 = some R → vT sc d M t L st s Q) (kf : ¬ x' = v → D2 = some R → vT sc d M pc L (vi x :: st) s Q) : (if x' = v then D1 else D2) = some R → vT sc d M pc L (vi x :: st) s Q := fun p => by
  subst hx
  by_cases h : w32 x = v
  · rw [if_pos h] at p
    have e : Int32.ofInt x = Int32.ofInt v := i32_eq.mpr (by rw [h, hv])
    rw [vT, vi, e]
    exact tS3 hi rfl h1 (kt p)
  · rw [if_neg h] at p; exact kf h p
theorem vSwD (t : Nat) {dd lo hi0 : Int} {offs : Array Int} {x : Int} (hi : xIns xg M pc = some (.tableswitch dd lo hi0 offs)) (hx : w32 x < lo ∨ hi0 < w32 x) (hj : xjmp pc dd = some t) (k : P → vT sc d M t L st s Q) : P → vT sc d M pc L (vi x :: st) s Q := fun p => wSwD t hi (by rw [i32w]; exact hx) hj (k p)
theorem cel_r {s : St} {a c j : Nat} {fs : List xFk} {kd : xFk} (hk : fs[j]? = some kd) : (fvs s a 0 fs)[j]? = some (fv s a j kd) := by rw [fvs_get, hk, Nat.zero_add]; rfl
theorem vGet (pc' : Nat) {k0 a ci j : Nat} {fs : List xFk} (hi : xIns xg M pc = some (.getfield k0)) (hf : xFld xg M k0 = some (ci, j)) (hs : sh[a]? = some (.inr (ci, fs))) (hk : fs[j]? = some (.inl 0)) (hp' : pc + 3 = pc') (k : P → vT sc d M pc' L (vi (s a j) :: st) s Q) : P → vT sc d M pc L (.ref a :: st) s Q := fun p => wGet pc' _ hi hf (hp_get hs) (cel_r (c := ci) hk) hp' (k p)
theorem vGetL (pc' : Nat) {k0 a ci j : Nat} {fs : List xFk} (hi : xIns xg M pc = some (.getfield k0)) (hf : xFld xg M k0 = some (ci, j)) (hs : sh[a]? = some (.inr (ci, fs))) (hk : fs[j]? = some (.inl 1)) (hp' : pc + 3 = pc') (k : P → vT sc d M pc' L (vl (s a j) :: st) s Q) : P → vT sc d M pc L (.ref a :: st) s Q := fun p => wGet pc' _ hi hf (hp_get hs) (cel_r (c := ci) hk) hp' (k p)
theorem vGetC (pc' : Nat) {k0 a ci j r : Nat} {fs : List xFk} (hi : xIns xg M pc = some (.getfield k0)) (hf : xFld xg M k0 = some (ci, j)) (hs : sh[a]? = some (.inr (ci, fs))) (hk : fs[j]? = some (.inr r)) (hp' : pc + 3 = pc') (k : P → vT sc d M pc' L (.ref r :: st) s Q) : P → vT sc d M pc L (.ref a :: st) s Q := fun p => wGet pc' _ hi hf (hp_get hs) (cel_r (c := ci) hk) hp' (k p)
theorem vGetR (pc' : Nat) {k0 a ci j t : Nat} {fs : List xFk} {K : Option Rs} (hi : xIns xg M pc = some (.getfield k0)) (hf : xFld xg M k0 = some (ci, j)) (hs : sh[a]? = some (.inr (ci, fs))) (hk : fs[j]? = some (.inl 2)) (hp' : pc + 3 = pc') (k : K = some R → vT sc d M pc' L (.ref t :: st) s Q) : (if s a j = (t : Int) then K else none) = some R → vT sc d M pc L (.ref a :: st) s Q := fun p => by
  by_cases h : s a j = (t : Int)
  · rw [if_pos h] at p
    refine wGet pc' _ hi hf (hp_get hs) (cel_r (c := ci) hk) hp' ?_
    have e : fv s a j (.inl 2) = .ref t := by show Value.ref (s a j).toNat = _; rw [h]; rfl
    rw [e]; exact k p
  · rw [if_neg h] at p; cases p
theorem vPut (pc' : Nat) {k0 a ci j : Nat} {x : Int} {fs : List xFk} {K : St → Option Rs} (hi : xIns xg M pc = some (.putfield k0)) (hf : xPut xg M k0 = some (ci, j, .int)) (hs : sh[a]? = some (.inr (ci, fs))) (hk : fs[j]? = some (.inl 0)) (hp' : pc + 3 = pc') (k : ∀ s1, K s1 = some R → vT sc d M pc' L st s1 Q) : bd (up s a j x) K = some R → vT sc d M pc L (vi x :: .ref a :: st) s Q := fun p => by
  refine wPut pc' hi hf (hp_get hs) (List.getElem?_eq_some_iff.mp (cel_r (s := s) (a := a) (c := ci) hk)).1 rfl rfl hp' ?_
  rw [hp_set (t := up s a j x) hs (fun b k h => up_ne h) (by show Sum.inr (ci, fvs (up s a j x) a 0 fs) = _; rw [fvs_set hk (v := vi x) (by show vi (up s a j x a j) = _; rw [up_same])])]
  exact k _ p
theorem vPutL (pc' : Nat) {k0 a ci j : Nat} {x : Int} {fs : List xFk} {K : St → Option Rs} (hi : xIns xg M pc = some (.putfield k0)) (hf : xPut xg M k0 = some (ci, j, .long)) (hs : sh[a]? = some (.inr (ci, fs))) (hk : fs[j]? = some (.inl 1)) (hp' : pc + 3 = pc') (k : ∀ s1, K s1 = some R → vT sc d M pc' L st s1 Q) : bd (up s a j x) K = some R → vT sc d M pc L (vl x :: .ref a :: st) s Q := fun p => by
  refine wPut pc' hi hf (hp_get hs) (List.getElem?_eq_some_iff.mp (cel_r (s := s) (a := a) (c := ci) hk)).1 rfl rfl hp' ?_
  rw [hp_set (t := up s a j x) hs (fun b k h => up_ne h) (by show Sum.inr (ci, fvs (up s a j x) a 0 fs) = _; rw [fvs_set hk (v := vl x) (by show vl (up s a j x a j) = _; rw [up_same])])]
  exact k _ p
theorem bool_v {x : Int} (h : x = 0 ∨ x = 1) : narrow .boolean (vi x) = vi x ∧ fits .boolean (vi x) = true := by
  rcases h with rfl | rfl <;> exact ⟨by decide, by decide⟩
theorem vPutZ (pc' : Nat) {k0 a ci j : Nat} {x : Int} {fs : List xFk} {K : St → Option Rs} (hi : xIns xg M pc = some (.putfield k0)) (hf : xPut xg M k0 = some (ci, j, .boolean)) (hs : sh[a]? = some (.inr (ci, fs))) (hk : fs[j]? = some (.inl 0)) (hp' : pc + 3 = pc') (k : ∀ s1, K s1 = some R → vT sc d M pc' L st s1 Q) : (if x = 0 ∨ x = 1 then bd (up s a j x) K else none) = some R → vT sc d M pc L (vi x :: .ref a :: st) s Q := fun p => by
  by_cases h : x = 0 ∨ x = 1
  · rw [if_pos h] at p
    refine wPut pc' hi hf (hp_get hs) (List.getElem?_eq_some_iff.mp (cel_r (s := s) (a := a) (c := ci) hk)).1 (bool_v h).1 (bool_v h).2 hp' ?_
    rw [hp_set (t := up s a j x) hs (fun b k h => up_ne h) (by show Sum.inr (ci, fvs (up s a j x) a 0 fs) = _; rw [fvs_set hk (v := vi x) (by show vi (up s a j x a j) = _; rw [up_same])])]
    exact k _ p
  · rw [if_neg h] at p; cases p
theorem vPutR (pc' : Nat) {k0 a ci j t : Nat} {C : String} {fs : List xFk} {K : St → Option Rs} (hi : xIns xg M pc = some (.putfield k0)) (hf : xPut xg M k0 = some (ci, j, .object C)) (hs : sh[a]? = some (.inr (ci, fs))) (hk : fs[j]? = some (.inl 2)) (hp' : pc + 3 = pc') (k : ∀ s1, K s1 = some R → vT sc d M pc' L st s1 Q) : bd (up s a j (t : Int)) K = some R → vT sc d M pc L (.ref t :: .ref a :: st) s Q := fun p => by
  refine wPut pc' hi hf (hp_get hs) (List.getElem?_eq_some_iff.mp (cel_r (s := s) (a := a) (c := ci) hk)).1 rfl rfl hp' ?_
  rw [hp_set (t := up s a j (t : Int)) hs (fun b k h => up_ne h) (by show Sum.inr (ci, fvs (up s a j (t : Int)) a 0 fs) = _; rw [fvs_set hk (v := .ref t) (by show Value.ref (up s a j (t : Int) a j).toNat = _; rw [up_same]; rfl)])]
  exact k _ p
theorem vIal (pc' : Nat) {a n : Nat} {j j' : Int} {K : Option Rs} (hj : w32 j = j') (hi : xIns xg M pc = some .iaload) (hs : sh[a]? = some (.inl (0, n))) (hp' : pc + 1 = pc') (k : K = some R → vT sc d M pc' L (vi (s a j'.toNat) :: st) s Q) : (if 0 ≤ j' ∧ j' < (n : Int) then K else none) = some R → vT sc d M pc L (vi j :: .ref a :: st) s Q := fun p => by
  subst hj
  by_cases h : 0 ≤ w32 j ∧ w32 j < (n : Int)
  · rw [if_pos h] at p
    refine wIal pc' hi (hp_get hs) (i32_ix h) hp' ?_
    rw [i32_nat]; exact k p
  · rw [if_neg h] at p; cases p
theorem vLal (pc' : Nat) {a n : Nat} {j j' : Int} {K : Option Rs} (hj : w32 j = j') (hi : xIns xg M pc = some .laload) (hs : sh[a]? = some (.inl (1, n))) (hp' : pc + 1 = pc') (k : K = some R → vT sc d M pc' L (vl (s a j'.toNat) :: st) s Q) : (if 0 ≤ j' ∧ j' < (n : Int) then K else none) = some R → vT sc d M pc L (vi j :: .ref a :: st) s Q := fun p => by
  subst hj
  by_cases h : 0 ≤ w32 j ∧ w32 j < (n : Int)
  · rw [if_pos h] at p
    refine wLal pc' hi (hp_get hs) (i32_ix h) hp' ?_
    rw [i32_nat]; exact k p
  · rw [if_neg h] at p; cases p
theorem vZal (pc' : Nat) {a n : Nat} {j j' : Int} {K : Option Rs} (hj : w32 j = j') (hi : xIns xg M pc = some .baload) (hs : sh[a]? = some (.inl (3, n))) (hp' : pc + 1 = pc') (k : K = some R → vT sc d M pc' L (vi (s a j'.toNat) :: st) s Q) : (if 0 ≤ j' ∧ j' < (n : Int) then K else none) = some R → vT sc d M pc L (vi j :: .ref a :: st) s Q := fun p => by
  subst hj
  by_cases h : 0 ≤ w32 j ∧ w32 j < (n : Int)
  · rw [if_pos h] at p
    refine wZal pc' hi (hp_get hs) (i32_ix h) hp' ?_
    rw [i32_nat]; exact k p
  · rw [if_neg h] at p; cases p
theorem vBal (pc' : Nat) {a n : Nat} {j j' : Int} {K : Option Rs} (hj : w32 j = j') (hi : xIns xg M pc = some .baload) (hs : sh[a]? = some (.inl (2, n))) (hp' : pc + 1 = pc') (k : K = some R → vT sc d M pc' L (vi (s a j'.toNat) :: st) s Q) : (if 0 ≤ j' ∧ j' < (n : Int) then K else none) = some R → vT sc d M pc L (vi j :: .ref a :: st) s Q := fun p => by
  subst hj
  by_cases h : 0 ≤ w32 j ∧ w32 j < (n : Int)
  · rw [if_pos h] at p
    have hc : (hp s)[a]? = some (.inl (.byte, n, .inl (fun k => Int32.ofInt (s a k)))) := hp_get hs
    have hq := i32_ix h
    refine tS4 hi rfl (st' := .int (Int32.ofInt (s a (Int32.ofInt j).toNatClampNeg)) :: st) (h' := hp s) (by simp only [xs4, hc, hq, if_false]) hp' ?_
    rw [i32_nat]; exact k p
  · rw [if_neg h] at p; cases p
theorem vIas (pc' : Nat) {a n : Nat} {j j' x : Int} {K : St → Option Rs} (hj : w32 j = j') (hi : xIns xg M pc = some .iastore) (hs : sh[a]? = some (.inl (0, n))) (hp' : pc + 1 = pc') (k : ∀ s1, K s1 = some R → vT sc d M pc' L st s1 Q) : (if 0 ≤ j' ∧ j' < (n : Int) then bd (up s a j'.toNat x) K else none) = some R → vT sc d M pc L (vi x :: vi j :: .ref a :: st) s Q := fun p => by
  subst hj
  by_cases h : 0 ≤ w32 j ∧ w32 j < (n : Int)
  · rw [if_pos h] at p
    refine wIas pc' hi (hp_get hs) (i32_ix h) hp' ?_
    rw [i32_nat, hp_set (t := up s a (w32 j).toNat x) hs (fun b k h => up_ne h) cel_up0]; exact k _ p
  · rw [if_neg h] at p; cases p
theorem vLas (pc' : Nat) {a n : Nat} {j j' x : Int} {K : St → Option Rs} (hj : w32 j = j') (hi : xIns xg M pc = some .lastore) (hs : sh[a]? = some (.inl (1, n))) (hp' : pc + 1 = pc') (k : ∀ s1, K s1 = some R → vT sc d M pc' L st s1 Q) : (if 0 ≤ j' ∧ j' < (n : Int) then bd (up s a j'.toNat x) K else none) = some R → vT sc d M pc L (vl x :: vi j :: .ref a :: st) s Q := fun p => by
  subst hj
  by_cases h : 0 ≤ w32 j ∧ w32 j < (n : Int)
  · rw [if_pos h] at p
    refine wLas pc' hi (hp_get hs) (i32_ix h) hp' ?_
    rw [i32_nat, hp_set (t := up s a (w32 j).toNat x) hs (fun b k h => up_ne h) cel_up1]; exact k _ p
  · rw [if_neg h] at p; cases p
theorem and1_v (x : Int) : Int32.ofInt x &&& 1 = Int32.ofInt (and32 x 1) := by unfold and32; rw [Int32.ofInt_toInt]; rfl
theorem vZas (pc' : Nat) {a n : Nat} {j j' x : Int} {K : St → Option Rs} (hj : w32 j = j') (hi : xIns xg M pc = some .bastore) (hs : sh[a]? = some (.inl (3, n))) (hp' : pc + 1 = pc') (k : ∀ s1, K s1 = some R → vT sc d M pc' L st s1 Q) : (if 0 ≤ j' ∧ j' < (n : Int) then bd (up s a j'.toNat (and32 x 1)) K else none) = some R → vT sc d M pc L (vi x :: vi j :: .ref a :: st) s Q := fun p => by
  subst hj
  by_cases h : 0 ≤ w32 j ∧ w32 j < (n : Int)
  · rw [if_pos h] at p
    refine wZas pc' hi (hp_get hs) (i32_ix h) hp' ?_
    rw [i32_nat, and1_v, hp_set (t := up s a (w32 j).toNat (and32 x 1)) hs (fun b k h => up_ne h) cel_up3]; exact k _ p
  · rw [if_neg h] at p; cases p
theorem vBas (pc' : Nat) {a n : Nat} {j j' x : Int} {K : St → Option Rs} (hj : w32 j = j') (hi : xIns xg M pc = some .bastore) (hs : sh[a]? = some (.inl (2, n))) (hp' : pc + 1 = pc') (k : ∀ s1, K s1 = some R → vT sc d M pc' L st s1 Q) : (if 0 ≤ j' ∧ j' < (n : Int) then bd (up s a j'.toNat (w8 x)) K else none) = some R → vT sc d M pc L (vi x :: vi j :: .ref a :: st) s Q := fun p => by
  subst hj
  by_cases h : 0 ≤ w32 j ∧ w32 j < (n : Int)
  · rw [if_pos h] at p
    have hc : (hp s)[a]? = some (.inl (.byte, n, .inl (fun k => Int32.ofInt (s a k)))) := hp_get hs
    have hq := i32_ix h
    refine tS4 hi rfl (by simp only [xs4, hc, hq, if_false]; rfl) hp' ?_
    rw [i32_nat, i32_b, hp_set (t := up s a (w32 j).toNat (w8 x)) hs (fun b k h => up_ne h) cel_up2]; exact k _ p
  · rw [if_neg h] at p; cases p
theorem vAln (pc' : Nat) {a n kd : Nat} (hkd : kd = 0 ∨ kd = 1) (hi : xIns xg M pc = some .arraylength) (hs : sh[a]? = some (.inl (kd, n))) (hp' : pc + 1 = pc') (k : P → vT sc d M pc' L (vi (n : Int) :: st) s Q) : P → vT sc d M pc L (.ref a :: st) s Q := fun p => by
  rcases hkd with rfl | rfl
  · exact wAln pc' hi (hp_get hs) rfl (by exact (Int32.ofInt_eq_ofNat (n := n)).symm) hp' (k p)
  · exact wAln pc' hi (hp_get hs) rfl (by exact (Int32.ofInt_eq_ofNat (n := n)).symm) hp' (k p)
theorem vSal (pc' : Nat) {j j' : Int} {K : Option Rs} (hj : w32 j = j') (hi : xIns xg M pc = some .iaload) (hp' : pc + 1 = pc') (k : K = some R → vT sc d M pc' L (vi (sc.2 j'.toNat).toInt :: st) s Q) : (if 0 ≤ j' ∧ j' < (sc.1 : Int) then K else none) = some R → vT sc d M pc L (vi j :: .retAddr 0 :: st) s Q := fun p => by
  subst hj
  by_cases h : 0 ≤ w32 j ∧ w32 j < (sc.1 : Int)
  · rw [if_pos h] at p
    refine wSal pc' hi (i32_ix h) hp' ?_
    have k := k p
    rw [vT, vi, Int32.ofInt_toInt] at k
    rw [i32_nat]; exact k
  · rw [if_neg h] at p; cases p
theorem vSln0 (pc' : Nat) (hi : xIns xg M pc = some .arraylength) (hp' : pc + 1 = pc') (k : P → vT sc d M pc' L (vi (sc.1 : Int) :: st) s Q) : P → vT sc d M pc L (.retAddr 0 :: st) s Q := fun p => wSln0 pc' hi hp' (by have k := k p; rw [vT, vi, Int32.ofInt_eq_ofNat] at k; exact k)
theorem vLdS (pc' : Nat) {k0 i0 : Nat} (hi : xIns xg M pc = some (.ldc k0)) (hc : xCon xg M k0 = none) (hs : xStr xg M k0 = some i0) (hp' : pc + 2 = pc') (k : P → vT sc d M pc' L (.retAddr (2 * i0 + 1) :: st) s Q) : P → vT sc d M pc L st s Q := fun p => wLdS pc' hi hc hs hp' (k p)
theorem vR0 {nL : Nat} {x : Int} (hi : xIns xg M pc = some .return_) (hm : (xMet xg M).2.2 = (nL, none)) : some (s, x) = some R → vT sc d M pc L [] s (fun r => r = qV R) := fun p => by cases p; exact wR0 hi hm rfl
theorem vRi {nL : Nat} {ty : FieldType} {x : Int} (hi : xIns xg M pc = some .ireturn) (hm : (xMet xg M).2.2 = (nL, some ty)) (hn : narrow ty (vi x) = vi x) : some (s, x) = some R → vT sc d M pc L [vi x] s (fun r => r = qI R) := fun p => by cases p; exact wRi hi hm hn rfl
theorem vRz {nL : Nat} {x : Int} (hi : xIns xg M pc = some .ireturn) (hm : (xMet xg M).2.2 = (nL, some .boolean)) : (if x = 0 ∨ x = 1 then some (s, x) else none) = some R → vT sc d M pc L [vi x] s (fun r => r = qI R) := fun p => by
  by_cases h : x = 0 ∨ x = 1
  · rw [if_pos h] at p; cases p; exact wRi hi hm (bool_v h).1 rfl
  · rw [if_neg h] at p; cases p
theorem vRt {nL : Nat} {ty : FieldType} {x : Int} (hi : xIns xg M pc = some .ireturn) (hm : (xMet xg M).2.2 = (nL, some ty)) : (if narrow ty (vi x) = vi x then some (s, x) else none) = some R → vT sc d M pc L [vi x] s (fun r => r = qI R) := fun p => by
  by_cases h : narrow ty (vi x) = vi x
  · rw [if_pos h] at p; cases p; exact wRi hi hm h rfl
  · rw [if_neg h] at p; cases p
theorem vRl {nL : Nat} {x : Int} (hi : xIns xg M pc = some .lreturn) (hm : (xMet xg M).2.2 = (nL, some .long)) : some (s, x) = some R → vT sc d M pc L [vl x] s (fun r => r = qL R) := fun p => by cases p; exact wRl hi hm rfl
theorem vRa {nL : Nat} {C : String} {e : Nat} (he : ¬ e = 1000) (hi : xIns xg M pc = some .areturn) (hm : (xMet xg M).2.2 = (nL, some (.object C))) : some (s, (e : Int)) = some R → vT sc d M pc L [.retAddr e] s (fun r => r = qS R) := fun p => by cases p; exact wRa hi hm he rfl
theorem xh0 {a ci : Nat} {fs : List xFk} {as : List Value} (hs : sh[a]? = some (.inr (ci, fs))) (hc : ¬ ci = 98) : xhead (xByt xg).length 0 ci (.ref a :: as) (hp s) = true := by
  have h := hp_get (s := s) hs
  simp only [xhead, h, cel]
  simpa using hc
/-- calls -/
theorem vCallI (pc' : Nat) {i : Instr} {kind N k0 ci nL : Nat} {rt : Option FieldType} (as rest : List Value) (L0 : xL) {Dc : Option Rs} {K : St → Int → Option Rs} (hi : xIns xg M pc = some i) (hs : xsort i = 9) (hl : xlink (xMth xg M) i = some (kind, N, k0, ci)) (hk : kind = 0 ∨ kind = 1 ∨ kind = 4 ∨ kind = 5) (hm : (xMet xg N).2.2 = (nL, rt)) (ha : (st.take k0).reverse = as) (hr : st.drop k0 = rest) (h1 : k0 ≤ st.length) (h2 : (rest.map (fun v => v.category)).sum ≤ 8) (h3 : (lg_sl as).length ≤ nL) (h4 : xhead (xByt xg).length kind ci as (hp s) = true) (hp' : pc + 3 = pc') (hL : lv_args 0 as = L0)
    (hc : ∀ R1, Dc = some R1 → vT sc d N 0 L0 [] s (fun r => r = qI R1)) (k : ∀ s1 x, K s1 x = some R → vT sc (d + 1) M pc' L (vi x :: rest) s1 Q) : bI Dc K = some R → vT sc (d + 1) M pc L st s Q := fun p => by
  cases hD : Dc with
  | none => rw [hD] at p; cases p
  | some R1 =>
    rw [hD] at p
    subst hL
    exact wCallR0 pc' as rest hi hs hl hk hm ha hr h1 h2 h3 h4 hp' (hc R1 hD) (k _ _ p)
theorem vCallL (pc' : Nat) {i : Instr} {kind N k0 ci nL : Nat} {rt : Option FieldType} (as rest : List Value) (L0 : xL) {Dc : Option Rs} {K : St → Int → Option Rs} (hi : xIns xg M pc = some i) (hs : xsort i = 9) (hl : xlink (xMth xg M) i = some (kind, N, k0, ci)) (hk : kind = 0 ∨ kind = 1 ∨ kind = 4 ∨ kind = 5) (hm : (xMet xg N).2.2 = (nL, rt)) (ha : (st.take k0).reverse = as) (hr : st.drop k0 = rest) (h1 : k0 ≤ st.length) (h2 : (rest.map (fun v => v.category)).sum ≤ 8) (h3 : (lg_sl as).length ≤ nL) (h4 : xhead (xByt xg).length kind ci as (hp s) = true) (hp' : pc + 3 = pc') (hL : lv_args 0 as = L0)
    (hc : ∀ R1, Dc = some R1 → vT sc d N 0 L0 [] s (fun r => r = qL R1)) (k : ∀ s1 x, K s1 x = some R → vT sc (d + 1) M pc' L (vl x :: rest) s1 Q) : bI Dc K = some R → vT sc (d + 1) M pc L st s Q := fun p => by
  cases hD : Dc with
  | none => rw [hD] at p; cases p
  | some R1 =>
    rw [hD] at p
    subst hL
    exact wCallR0 pc' as rest hi hs hl hk hm ha hr h1 h2 h3 h4 hp' (hc R1 hD) (k _ _ p)
theorem vCallS (pc' : Nat) {i : Instr} {kind N k0 ci nL : Nat} {rt : Option FieldType} (as rest : List Value) (L0 : xL) {Dc : Option Rs} {K : St → Nat → Option Rs} (hi : xIns xg M pc = some i) (hs : xsort i = 9) (hl : xlink (xMth xg M) i = some (kind, N, k0, ci)) (hk : kind = 0 ∨ kind = 1 ∨ kind = 4 ∨ kind = 5) (hm : (xMet xg N).2.2 = (nL, rt)) (ha : (st.take k0).reverse = as) (hr : st.drop k0 = rest) (h1 : k0 ≤ st.length) (h2 : (rest.map (fun v => v.category)).sum ≤ 8) (h3 : (lg_sl as).length ≤ nL) (h4 : xhead (xByt xg).length kind ci as (hp s) = true) (hp' : pc + 3 = pc') (hL : lv_args 0 as = L0)
    (hc : ∀ R1, Dc = some R1 → vT sc d N 0 L0 [] s (fun r => r = qS R1)) (k : ∀ s1 x, K s1 x = some R → vT sc (d + 1) M pc' L (.retAddr x :: rest) s1 Q) : bS Dc K = some R → vT sc (d + 1) M pc L st s Q := fun p => by
  cases hD : Dc with
  | none => rw [hD] at p; cases p
  | some R1 =>
    rw [hD] at p
    subst hL
    exact wCallR0 pc' as rest hi hs hl hk hm ha hr h1 h2 h3 h4 hp' (hc R1 hD) (k _ _ p)
theorem vCallV (pc' : Nat) {i : Instr} {kind N k0 ci nL : Nat} {rt : Option FieldType} (as rest : List Value) (L0 : xL) {Dc : Option Rs} {K : St → Option Rs} (hi : xIns xg M pc = some i) (hs : xsort i = 9) (hl : xlink (xMth xg M) i = some (kind, N, k0, ci)) (hk : kind = 0 ∨ kind = 1 ∨ kind = 4 ∨ kind = 5) (hm : (xMet xg N).2.2 = (nL, rt)) (ha : (st.take k0).reverse = as) (hr : st.drop k0 = rest) (h1 : k0 ≤ st.length) (h2 : (rest.map (fun v => v.category)).sum ≤ 8) (h3 : (lg_sl as).length ≤ nL) (h4 : xhead (xByt xg).length kind ci as (hp s) = true) (hp' : pc + 3 = pc') (hL : lv_args 0 as = L0)
    (hc : ∀ R1, Dc = some R1 → vT sc d N 0 L0 [] s (fun r => r = qV R1)) (k : ∀ s1, K s1 = some R → vT sc (d + 1) M pc' L rest s1 Q) : bV Dc K = some R → vT sc (d + 1) M pc L st s Q := fun p => by
  cases hD : Dc with
  | none => rw [hD] at p; cases p
  | some R1 =>
    rw [hD] at p
    subst hL
    exact wCallV0 pc' as rest hi hs hl hk hm ha hr h1 h2 h3 h4 hp' (hc R1 hD) (k _ p)
theorem if_vi {c : Prop} [Decidable c] {x y : Int} : (if c then Int32.ofInt x else Int32.ofInt y) = Int32.ofInt (if c then x else y) := by split <;> rfl
theorem vMax (pc' : Nat) {k0 N na ci : Nat} {x y x' y' : Int} (hx : w32 x = x') (hy : w32 y = y') (hi : xIns xg M pc = some (.invokestatic k0)) (hl : xMth xg M k0 = some (8, N, na, ci)) (h2 : (st.map (fun v => v.category)).sum ≤ 8) (hp' : pc + 3 = pc') (k : P → vT sc (d + 1) M pc' L (vi (if x' < y' then y else x) :: st) s Q) : P → vT sc (d + 1) M pc L (vi y :: vi x :: st) s Q := fun p => by
  subst hx; subst hy; subst hp'
  refine tMax hi hl h2 ?_
  have k := k p
  simp only [i32_lt, if_vi]; exact k
theorem vMin (pc' : Nat) {k0 N na ci : Nat} {x y x' y' : Int} (hx : w32 x = x') (hy : w32 y = y') (hi : xIns xg M pc = some (.invokestatic k0)) (hl : xMth xg M k0 = some (9, N, na, ci)) (h2 : (st.map (fun v => v.category)).sum ≤ 8) (hp' : pc + 3 = pc') (k : P → vT sc (d + 1) M pc' L (vi (if y' < x' then y else x) :: st) s Q) : P → vT sc (d + 1) M pc L (vi y :: vi x :: st) s Q := fun p => by
  subst hx; subst hy; subst hp'
  refine tMin hi hl h2 ?_
  have k := k p
  simp only [i32_lt, if_vi]; exact k
def cpOk (n sp dp : Int) (n0 n1 : Nat) : Prop := 0 ≤ n ∧ 0 ≤ sp ∧ 0 ≤ dp ∧ sp + n ≤ n0 ∧ dp + n ≤ n1
theorem cpDec (n sp dp : Int) (n0 n1 : Nat) : cpOk n sp dp n0 n1 ↔ (0 ≤ n ∧ 0 ≤ sp ∧ 0 ≤ dp ∧ sp + n ≤ n0 ∧ dp + n ≤ n1) := Iff.rfl
theorem cp_no {n dp sp : Int} {n0 n1 : Nat} {r : List Value} (h : 0 ≤ w32 n ∧ 0 ≤ w32 sp ∧ 0 ≤ w32 dp ∧ w32 sp + w32 n ≤ n0 ∧ w32 dp + w32 n ≤ n1) (h4 : (r.map (fun v => v.category)).sum ≤ 8) : ¬ (Int32.ofInt n < 0 ∨ Int32.ofInt dp < 0 ∨ Int32.ofInt sp < 0 ∨ 8 < (r.map (fun v => v.category)).sum) := by
  rw [zi32, i32_lt, i32_lt, i32_lt, w32_0]
  omega
theorem vCpI (pc' : Nat) {k0 N na ci a0 a1 n0 n1 : Nat} {n dp sp n' dp' sp' : Int} {K : St → Option Rs} (hn' : w32 n = n') (hd' : w32 dp = dp') (hs' : w32 sp = sp') (hi : xIns xg M pc = some (.invokestatic k0)) (hl : xMth xg M k0 = some (7, N, na, ci)) (hs0 : sh[a0]? = some (.inl (0, n0))) (hs1 : sh[a1]? = some (.inl (0, n1))) (h4 : (st.map (fun v => v.category)).sum ≤ 8) (hp' : pc + 3 = pc') (k : ∀ s1, K s1 = some R → vT sc (d + 1) M pc' L st s1 Q) : (if 0 ≤ n' ∧ 0 ≤ sp' ∧ 0 ≤ dp' ∧ sp' + n' ≤ (n0 : Int) ∧ dp' + n' ≤ (n1 : Int) then bd (cp s a0 sp'.toNat a1 dp'.toNat n'.toNat) K else none) = some R → vT sc (d + 1) M pc L (vi n :: vi dp :: .ref a1 :: vi sp :: .ref a0 :: st) s Q := fun p => by
  subst hn'; subst hd'; subst hs'; subst hp'
  by_cases h : 0 ≤ w32 n ∧ 0 ≤ w32 sp ∧ 0 ≤ w32 dp ∧ w32 sp + w32 n ≤ (n0 : Int) ∧ w32 dp + w32 n ≤ (n1 : Int)
  · rw [if_pos h] at p
    have hc0 : (hp s)[a0]? = some (.inl (.int, n0, .inl (fun k => Int32.ofInt (s a0 k)))) := hp_get hs0
    have hc1 : (hp s)[a1]? = some (.inl (.int, n1, .inl (fun k => Int32.ofInt (s a1 k)))) := hp_get hs1
    have hno := cp_no (r := st) (by exact h) h4
    have e1 : (w32 sp).toNat + (w32 n).toNat ≤ n0 ∧ (w32 dp).toNat + (w32 n).toNat ≤ n1 := by obtain ⟨a, b, c, d, e⟩ := h; omega
    refine tCopy hi hl (st' := st) (h' := hp (cp s a0 (w32 sp).toNat a1 (w32 dp).toNat (w32 n).toNat)) ?_ (k _ p)
    simp only [xcopy, hno, if_false, hc0, hc1, i32_nat]
    rw [if_pos e1, hp_set (t := cp s a0 (w32 sp).toNat a1 (w32 dp).toNat (w32 n).toNat) hs1 (fun b k h => cp_ne h) (by show (Sum.inl (.int, n1, .inl (fun k => Int32.ofInt (cp s a0 (w32 sp).toNat a1 (w32 dp).toNat (w32 n).toNat a1 k))) : xE) = _; rw [cp_fun Int32.ofInt])]
  · rw [if_neg h] at p; cases p
theorem vCpL (pc' : Nat) {k0 N na ci a0 a1 n0 n1 : Nat} {n dp sp n' dp' sp' : Int} {K : St → Option Rs} (hn' : w32 n = n') (hd' : w32 dp = dp') (hs' : w32 sp = sp') (hi : xIns xg M pc = some (.invokestatic k0)) (hl : xMth xg M k0 = some (7, N, na, ci)) (hs0 : sh[a0]? = some (.inl (1, n0))) (hs1 : sh[a1]? = some (.inl (1, n1))) (h4 : (st.map (fun v => v.category)).sum ≤ 8) (hp' : pc + 3 = pc') (k : ∀ s1, K s1 = some R → vT sc (d + 1) M pc' L st s1 Q) : (if 0 ≤ n' ∧ 0 ≤ sp' ∧ 0 ≤ dp' ∧ sp' + n' ≤ (n0 : Int) ∧ dp' + n' ≤ (n1 : Int) then bd (cp s a0 sp'.toNat a1 dp'.toNat n'.toNat) K else none) = some R → vT sc (d + 1) M pc L (vi n :: vi dp :: .ref a1 :: vi sp :: .ref a0 :: st) s Q := fun p => by
  subst hn'; subst hd'; subst hs'; subst hp'
  by_cases h : 0 ≤ w32 n ∧ 0 ≤ w32 sp ∧ 0 ≤ w32 dp ∧ w32 sp + w32 n ≤ (n0 : Int) ∧ w32 dp + w32 n ≤ (n1 : Int)
  · rw [if_pos h] at p
    have hc0 : (hp s)[a0]? = some (.inl (.long, n0, .inr (.inl (fun k => Int64.ofInt (s a0 k))))) := hp_get hs0
    have hc1 : (hp s)[a1]? = some (.inl (.long, n1, .inr (.inl (fun k => Int64.ofInt (s a1 k))))) := hp_get hs1
    have hno := cp_no (r := st) (by exact h) h4
    have e1 : (w32 sp).toNat + (w32 n).toNat ≤ n0 ∧ (w32 dp).toNat + (w32 n).toNat ≤ n1 := by obtain ⟨a, b, c, d, e⟩ := h; omega
    refine tCopy hi hl (st' := st) (h' := hp (cp s a0 (w32 sp).toNat a1 (w32 dp).toNat (w32 n).toNat)) ?_ (k _ p)
    simp only [xcopy, hno, if_false, hc0, hc1, i32_nat]
    rw [if_pos e1, hp_set (t := cp s a0 (w32 sp).toNat a1 (w32 dp).toNat (w32 n).toNat) hs1 (fun b k h => cp_ne h) (by show (Sum.inl (.long, n1, .inr (.inl (fun k => Int64.ofInt (cp s a0 (w32 sp).toNat a1 (w32 dp).toNat (w32 n).toNat a1 k)))) : xE) = _; rw [cp_fun Int64.ofInt])]
  · rw [if_neg h] at p; cases p
theorem vCpB (pc' : Nat) {k0 N na ci a0 a1 n0 n1 : Nat} {n dp sp n' dp' sp' : Int} {K : St → Option Rs} (hn' : w32 n = n') (hd' : w32 dp = dp') (hs' : w32 sp = sp') (hi : xIns xg M pc = some (.invokestatic k0)) (hl : xMth xg M k0 = some (7, N, na, ci)) (hs0 : sh[a0]? = some (.inl (2, n0))) (hs1 : sh[a1]? = some (.inl (2, n1))) (h4 : (st.map (fun v => v.category)).sum ≤ 8) (hp' : pc + 3 = pc') (k : ∀ s1, K s1 = some R → vT sc (d + 1) M pc' L st s1 Q) : (if 0 ≤ n' ∧ 0 ≤ sp' ∧ 0 ≤ dp' ∧ sp' + n' ≤ (n0 : Int) ∧ dp' + n' ≤ (n1 : Int) ∧ (List.range n'.toNat).all (fun i => fits .byte (vi (s a0 (sp'.toNat + i)))) = true then bd (cp s a0 sp'.toNat a1 dp'.toNat n'.toNat) K else none) = some R → vT sc (d + 1) M pc L (vi n :: vi dp :: .ref a1 :: vi sp :: .ref a0 :: st) s Q := fun p => by
  subst hn'; subst hd'; subst hs'; subst hp'
  by_cases h : 0 ≤ w32 n ∧ 0 ≤ w32 sp ∧ 0 ≤ w32 dp ∧ w32 sp + w32 n ≤ (n0 : Int) ∧ w32 dp + w32 n ≤ (n1 : Int) ∧ (List.range (w32 n).toNat).all (fun i => fits .byte (vi (s a0 ((w32 sp).toNat + i)))) = true
  · rw [if_pos h] at p
    have hc0 : (hp s)[a0]? = some (.inl (.byte, n0, .inl (fun k => Int32.ofInt (s a0 k)))) := hp_get hs0
    have hc1 : (hp s)[a1]? = some (.inl (.byte, n1, .inl (fun k => Int32.ofInt (s a1 k)))) := hp_get hs1
    have hno := cp_no (r := st) (by exact ⟨h.1, h.2.1, h.2.2.1, h.2.2.2.1, h.2.2.2.2.1⟩) h4
    have e1 : (w32 sp).toNat + (w32 n).toNat ≤ n0 ∧ (w32 dp).toNat + (w32 n).toNat ≤ n1 := by obtain ⟨a, b, c, d, e, -⟩ := h; omega
    refine tCopy hi hl (st' := st) (h' := hp (cp s a0 (w32 sp).toNat a1 (w32 dp).toNat (w32 n).toNat)) ?_ (k _ p)
    simp only [xcopy, hno, if_false, hc0, hc1, i32_nat]
    rw [if_pos ⟨e1, h.2.2.2.2.2⟩, hp_set (t := cp s a0 (w32 sp).toNat a1 (w32 dp).toNat (w32 n).toNat) hs1 (fun b k h => cp_ne h) (by show (Sum.inl (.byte, n1, .inl (fun k => Int32.ofInt (cp s a0 (w32 sp).toNat a1 (w32 dp).toNat (w32 n).toNat a1 k))) : xE) = _; rw [cp_fun Int32.ofInt])]
  · rw [if_neg h] at p; cases p
end VRU
end
section
theorem xbl : (xByt xg).length = 25 := rfl
abbrev bOk (e : Nat) : Prop := e % 2 = 0 ∧ ¬ e = 0 ∧ ¬ e = 1000 ∧ e / 2 - 1 < 25
def bLen (e : Nat) : Nat := (xbyt.getD (e / 2 - 1) []).length
def bAt (e j : Nat) : Int := ((xbyt.getD (e / 2 - 1) []).getD j 0).toInt
section VRS
variable {sc : xS} {d M pc : Nat} {L : xL} {st : List Value} {s : St} {Q : xR → Prop} {P : Prop} {R : Rs}
theorem xh98 {e : Nat} {as : List Value} {h : xH} (he : e % 2 = 1 ∧ e / 2 < 25) : xhead (xByt xg).length 0 98 (.retAddr e :: as) h = true := by
  have h1 : (98 == 98 && e % 2 == 1 && decide (e / 2 < 25)) = true := by simp [he.1, he.2]
  rw [xbl]
  exact h1
theorem vX98 {e : Nat} {K : Option Rs} (k : (e % 2 = 1 ∧ e / 2 < 25) → K = some R → vT sc d M pc L st s Q) : (if e % 2 = 1 ∧ e / 2 < 25 then K else none) = some R → vT sc d M pc L st s Q := fun p => by
  by_cases h : e % 2 = 1 ∧ e / 2 < 25
  · rw [if_pos h] at p; exact k h p
  · rw [if_neg h] at p; cases p
theorem vGfv (pc' : Nat) {k0 e : Nat} {K : Option Rs} (hi : xIns xg M pc = some (.getfield k0)) (hf : xExf xg M k0 = some 0) (hp' : pc + 3 = pc') (k : K = some R → vT sc d M pc' L (.retAddr (2 * (e / 2) + 2) :: st) s Q) : (if e % 2 = 1 ∧ e / 2 < 25 then K else none) = some R → vT sc d M pc L (.retAddr e :: st) s Q := fun p => by
  by_cases h : e % 2 = 1 ∧ e / 2 < 25
  · rw [if_pos h] at p; exact wGfv pc' hi (by rw [xbl]; exact h) hf (by omega) hp' (k p)
  · rw [if_neg h] at p; cases p
theorem vGfc (pc' : Nat) {k0 e : Nat} {K : Option Rs} (hi : xIns xg M pc = some (.getfield k0)) (hf : xExf xg M k0 = some 1) (hp' : pc + 3 = pc') (k : K = some R → vT sc d M pc' L (vi 0 :: st) s Q) : (if e % 2 = 1 ∧ e / 2 < 25 then K else none) = some R → vT sc d M pc L (.retAddr e :: st) s Q := fun p => by
  by_cases h : e % 2 = 1 ∧ e / 2 < 25
  · rw [if_pos h] at p; exact wGfc pc' hi (by rw [xbl]; exact h) hf hp' (k p)
  · rw [if_neg h] at p; cases p
theorem vGs (pc' : Nat) {k0 : Nat} {v : Value} (hi : xIns xg M pc = some (.getstatic k0)) (hf : xSta xg M k0 = some v) (hp' : pc + 3 = pc') (k : P → vT sc d M pc' L (v :: st) s Q) : P → vT sc d M pc L st s Q := fun p => wGs pc' hi hf hp' (k p)
theorem vBln (pc' : Nat) {e : Nat} {K : Option Rs} (hi : xIns xg M pc = some .arraylength) (hp' : pc + 1 = pc') (k : K = some R → vT sc d M pc' L (vi ((bLen e : Nat) : Int) :: st) s Q) : (if bOk e then K else none) = some R → vT sc d M pc L (.retAddr e :: st) s Q := fun p => by
  by_cases h : bOk e
  · rw [if_pos h] at p
    exact wBln pc' hi ⟨⟨h.1, h.2.2.1⟩, by rw [xbl]; exact h.2.2.2⟩ h.2.1 rfl (Int32.ofInt_eq_ofNat (n := bLen e)).symm hp' (k p)
  · rw [if_neg h] at p; cases p
theorem vBalS (pc' : Nat) {e : Nat} {j j' : Int} {K : Option Rs} (hj : w32 j = j') (hi : xIns xg M pc = some .baload) (hp' : pc + 1 = pc') (k : K = some R → vT sc d M pc' L (vi (bAt e j'.toNat) :: st) s Q) : (if bOk e ∧ 0 ≤ j' ∧ j' < ((bLen e : Nat) : Int) then K else none) = some R → vT sc d M pc L (vi j :: .retAddr e :: st) s Q := fun p => by
  subst hj
  by_cases h : bOk e ∧ 0 ≤ w32 j ∧ w32 j < ((bLen e : Nat) : Int)
  · rw [if_pos h] at p
    refine wBal pc' hi ?_ (l := xbyt.getD (e / 2 - 1) []) rfl (i32_ix h.2) hp' ?_
    · rw [xbl]
      have := h.1
      omega
    · have k := k p
      unfold bAt at k
      rw [vT, vi, Int32.ofInt_toInt] at k
      rw [i32_nat]; exact k
  · rw [if_neg h] at p; cases p
end VRS
section VRT
variable {sc : xS} {d M pc : Nat} {L : xL} {st : List Value} {s : St} {Q : xR → Prop} {P : Prop}
theorem vZt0 (t : Nat) {q : ClassFile.Cond} {off : Int} {x : Int} (hi : xIns xg M pc = some (.ifCond q off)) (hj : xjmp pc off = some t) (hc : xcond q (Int32.ofInt x) 0 = true) (k : P → vT sc d M t L st s Q) : P → vT sc d M pc L (vi x :: st) s Q := fun p => wZT t hi hj hc (k p)
theorem vZf0 (t pc' : Nat) {q : ClassFile.Cond} {off : Int} {x : Int} (hi : xIns xg M pc = some (.ifCond q off)) (hj : xjmp pc off = some t) (hc : xcond q (Int32.ofInt x) 0 = false) (hp' : pc + 3 = pc') (k : P → vT sc d M pc' L st s Q) : P → vT sc d M pc L (vi x :: st) s Q := fun p => wZF t pc' hi hj hc hp' (k p)
theorem vCt0 (t : Nat) {q : ClassFile.Cond} {off : Int} {x y : Int} (hi : xIns xg M pc = some (.if_icmp q off)) (hj : xjmp pc off = some t) (hc : xcond q (Int32.ofInt x) (Int32.ofInt y) = true) (k : P → vT sc d M t L st s Q) : P → vT sc d M pc L (vi y :: vi x :: st) s Q := fun p => wCT t hi hj hc (k p)
theorem vCf0 (t pc' : Nat) {q : ClassFile.Cond} {off : Int} {x y : Int} (hi : xIns xg M pc = some (.if_icmp q off)) (hj : xjmp pc off = some t) (hc : xcond q (Int32.ofInt x) (Int32.ofInt y) = false) (hp' : pc + 3 = pc') (k : P → vT sc d M pc' L st s Q) : P → vT sc d M pc L (vi y :: vi x :: st) s Q := fun p => wCF t pc' hi hj hc hp' (k p)
end VRT
section VRW
variable {sc : xS} {d M pc : Nat} {L : xL} {st : List Value} {s : St} {Q : xR → Prop} {P : Prop}
theorem vSi0 (pc' : Nat) (L' : xL) {n nL : Nat} {rt : Option FieldType} {x : Int} (hi : xIns xg M pc = some (.istore n)) (hm : (xMet xg M).2.2 = (nL, rt)) (hn : n < nL) (hl : xst1 L n (vi x) = L') (hp' : pc + 2 = pc') (k : P → vT sc d M pc' L' st s Q) : P → vT sc d M pc L (vi x :: st) s Q := fun p => wSi pc' L' hi hm hn hl hp' (k p)
theorem vSin0 (pc' : Nat) (L' : xL) {n : Fin 4} {nL : Nat} {rt : Option FieldType} {x : Int} (hi : xIns xg M pc = some (.istore_n n)) (hm : (xMet xg M).2.2 = (nL, rt)) (hn : n.val < nL) (hl : xst1 L n.val (vi x) = L') (hp' : pc + 1 = pc') (k : P → vT sc d M pc' L' st s Q) : P → vT sc d M pc L (vi x :: st) s Q := fun p => wSin pc' L' hi hm hn hl hp' (k p)
theorem vSl0 (pc' : Nat) (L' : xL) {n nL : Nat} {rt : Option FieldType} {x : Int} (hi : xIns xg M pc = some (.lstore n)) (hm : (xMet xg M).2.2 = (nL, rt)) (hn : n + 1 < nL) (hl : xst2 L n (vl x) = L') (hp' : pc + 2 = pc') (k : P → vT sc d M pc' L' st s Q) : P → vT sc d M pc L (vl x :: st) s Q := fun p => wSl pc' L' hi hm hn hl hp' (k p)
theorem vSln0w (pc' : Nat) (L' : xL) {n : Fin 4} {nL : Nat} {rt : Option FieldType} {x : Int} (hi : xIns xg M pc = some (.lstore_n n)) (hm : (xMet xg M).2.2 = (nL, rt)) (hn : n.val + 1 < nL) (hl : xst2 L n.val (vl x) = L') (hp' : pc + 1 = pc') (k : P → vT sc d M pc' L' st s Q) : P → vT sc d M pc L (vl x :: st) s Q := fun p => wSln pc' L' hi hm hn hl hp' (k p)
end VRW
theorem vPutZ0 {sc : xS} {d M pc : Nat} {L : xL} {st : List Value} {s : St} {Q : xR → Prop} {R : Rs} (pc' : Nat) {k0 a ci j : Nat} {x : Int} {fs : List xFk} {K : St → Option Rs} (h : x = 0 ∨ x = 1) (hi : xIns xg M pc = some (.putfield k0)) (hf : xPut xg M k0 = some (ci, j, .boolean)) (hs : sh[a]? = some (.inr (ci, fs))) (hk : fs[j]? = some (.inl 0)) (hp' : pc + 3 = pc') (k : ∀ s1, K s1 = some R → vT sc d M pc' L st s1 Q) : bd (up s a j x) K = some R → vT sc d M pc L (vi x :: .ref a :: st) s Q := fun p => vPutZ pc' hi hf hs hk hp' k (by rw [if_pos h]; exact p)
end
