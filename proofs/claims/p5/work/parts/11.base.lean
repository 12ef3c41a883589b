/-! How the evaluator's heaps and values lie in the machine's: cell i is at base + i, the script at b. -/
def xv (base : Nat) (xa : Nat → Nat) : Value → Value
  | .ref i => .ref (base + i)
  | .retAddr k => if k = 1000 then va_rf (if xa 1000 = 0 then none else some (xa 1000 - 1)) else .ref (xa k)
  | v => v
abbrev xq (base : Nat) (xa : Nat → Nat) : Nat × Value → Nat × Value := fun q => (q.1, xv base xa q.2)
def xc (dA : FieldType → ClassId) (base : Nat) (xa : Nat → Nat) : xE → va_E
  | .inl (ty, x) => .inl (dA ty, x)
  | .inr (ci, fs) => .inr (ci, fs.map (xv base xa))
def xw (dA : FieldType → ClassId) (base : Nat) (xa : Nat → Nat) (h : xH) : va_W := h.mapIdx (fun i c => (base + i, xc dA base xa c))
def xtys (dA : FieldType → ClassId) : List (ClassId × FieldType) := [(dA .int, .int), (dA .long, .long), (dA .byte, .byte), (dA .boolean, .boolean)]
def xW (D : va_G) (cl : List vw_C) (dA : FieldType → ClassId) (base : Nat) (xa : Nat → Nat) (h : xH) (H : Heap) : Prop := H.size = base + h.length ∧ va_P D cl (xw dA base xa h) H
theorem xv_ext (base : Nat) (xa : Nat → Nat) {e : Nat} (h : ¬ e = 1000) : xv base xa (.retAddr e) = .ref (xa e) := by
  show (if e = 1000 then _ else _) = _
  rw [if_neg h]
theorem xv_txt (base : Nat) (xa : Nat → Nat) (i : Nat) : xv base xa (.retAddr (2 * i + 1)) = .ref (xa (2 * i + 1)) := xv_ext base xa (by omega)
theorem xv_cat (base : Nat) (xa : Nat → Nat) (v : Value) : (xv base xa v).category = v.category := by
  cases v with
  | retAddr k =>
    show (if k = 1000 then va_rf (if xa 1000 = 0 then none else some (xa 1000 - 1)) else Value.ref (xa k)).category = 1
    split
    · split <;> rfl
    · rfl
  | _ => rfl
theorem xw_at (dA : FieldType → ClassId) (base : Nat) (xa : Nat → Nat) {h : xH} {a : Nat} {c : xE} (hc : h[a]? = some c) : (xw dA base xa h)[a]? = some (base + a, xc dA base xa c) := by
  simp [xw, List.getElem?_mapIdx, hc]
theorem xw_set (dA : FieldType → ClassId) (base : Nat) (xa : Nat → Nat) (h : xH) (a : Nat) (c : xE) : xw dA base xa (h.set a c) = (xw dA base xa h).set a (base + a, xc dA base xa c) := by
  apply List.ext_getElem?
  intro i
  by_cases hi : i = a
  · subst hi
    by_cases hl : i < h.length
    · simp [xw, List.getElem?_mapIdx, List.getElem?_set_self, hl]
    · simp [xw, List.getElem?_mapIdx, hl]
  · simp [xw, List.getElem?_mapIdx, List.getElem?_set_ne (Ne.symm hi)]
theorem xw_push (dA : FieldType → ClassId) (base : Nat) (xa : Nat → Nat) (h : xH) (c : xE) : xw dA base xa (h ++ [c]) = xw dA base xa h ++ [(base + h.length, xc dA base xa c)] := by
  simp [xw, List.mapIdx_append]
theorem xw_len (dA : FieldType → ClassId) (base : Nat) (xa : Nat → Nat) (h : xH) : (xw dA base xa h).length = h.length := by simp [xw]
theorem xw_D (dA : FieldType → ClassId) (base : Nat) (xa : Nat → Nat) (h : xH) : va_D (fun q => base ≤ q) (xw dA base xa h) := by
  refine ⟨fun i j x y hi hj hxy => ?_, fun k q hk => ?_⟩
  · simp only [xw, List.getElem?_mapIdx] at hi hj
    cases h1 : h[i]? with
    | none => rw [h1] at hi; cases hi
    | some c1 =>
      cases h2 : h[j]? with
      | none => rw [h2] at hj; cases hj
      | some c2 =>
        rw [h1] at hi; rw [h2] at hj
        cases hi; cases hj
        have : base + i = base + j := hxy
        omega
  · simp only [xw, List.getElem?_mapIdx] at hk
    cases h1 : h[k]? with
    | none => rw [h1] at hk; cases hk
    | some c1 =>
      rw [h1] at hk; cases hk
      exact Nat.le_add_right _ _
theorem xst1_map (base : Nat) (xa : Nat → Nat) (L : xL) (i : Nat) (v : Value) : (xst1 L i v).map (xq base xa) = (i, xv base xa v) :: (L.map (xq base xa)).filter (fun q => !(q.1 == i) && !(q.1 + 1 == i && q.2.category == 2)) := by
  simp only [xst1, List.map_cons, List.filter_map]
  congr 2
  apply List.filter_congr
  intro q _
  simp only [Function.comp, xq, xv_cat]
theorem xst2_map (base : Nat) (xa : Nat → Nat) (L : xL) (i : Nat) (v : Value) : (xst2 L i v).map (xq base xa) = (i, xv base xa v) :: (L.map (xq base xa)).filter (fun q => !(q.1 == i) && (!(q.1 == i + 1) && !(q.1 + 1 == i && q.2.category == 2))) := by
  simp only [xst2, List.map_cons, List.filter_map]
  congr 2
  apply List.filter_congr
  intro q _
  simp only [Function.comp, xq, xv_cat]
theorem x_lookm {L : xL} {i : Nat} {v : Value} (h : L.lookup i = some v) : (i, v) ∈ L := by
  induction L with
  | nil => cases h
  | cons q r ih =>
    obtain ⟨j, w⟩ := q
    rw [List.lookup_cons] at h
    by_cases hj : (i == j) = true
    · rw [hj] at h
      cases h
      rw [beq_iff_eq.mp hj]
      exact List.mem_cons_self
    · have hj' : (i == j) = false := by simpa using hj
      rw [hj'] at h
      exact List.mem_cons_of_mem _ (ih h)
theorem x_look {base nL : Nat} {xa : Nat → Nat} {ls : Array Slot} {L : xL} {i : Nat} {v : Value} (hl : lv_has ls nL (L.map (xq base xa))) (h : L.lookup i = some v) : ls[i]? = some (.val (xv base xa v)) :=
  hl.2.2 (i, xv base xa v) (List.mem_map.mpr ⟨(i, v), x_lookm h, rfl⟩)
theorem x_lookn {base : Nat} {xa : Nat → Nat} {L : xL} {i : Nat} {v : Value} (h : L.lookup i = some v) : ∃ k : Nat, (L.map (xq base xa))[k]? = some (i, xv base xa v) := by
  obtain ⟨k, hk⟩ := List.getElem?_of_mem (x_lookm h)
  exact ⟨k, by rw [List.getElem?_map, hk]; rfl⟩
theorem x_args (base : Nat) (xa : Nat → Nat) : ∀ (vs : List Value) (i : Nat), lv_args i (vs.map (xv base xa)) = (lv_args i vs).map (xq base xa)
  | [], _ => rfl
  | v :: vs, i => by
    simp only [List.map_cons, lv_args, xv_cat]
    rw [x_args base xa vs]
theorem x_sl (base : Nat) (xa : Nat → Nat) (vs : List Value) : (lg_sl (vs.map (xv base xa))).length = (lg_sl vs).length := by
  induction vs with
  | nil => rfl
  | cons v t ih =>
    simp only [lg_sl, List.map_cons, List.flatMap_cons, List.length_append, xv_cat] at ih ⊢
    rw [ih]
    by_cases h : v.category = 2 <;> simp [h]
theorem x_fit (base : Nat) (xa : Nat → Nat) {ty : FieldType} {v : Value} (h : fits ty v = true) : fits ty (xv base xa v) = true := by
  cases v <;> first | exact h | (cases ty <;> first | rfl | cases h)
theorem x_nar (base : Nat) (xa : Nat → Nat) {ty : FieldType} {v : Value} (hf : fits ty v = true) (h : narrow ty v = v) : narrow ty (xv base xa v) = xv base xa v := by
  cases v <;> first | exact h | (cases ty <;> first | rfl | cases hf)
theorem x_jmp {pc t : Nat} {off : Int} (h : xjmp pc off = some t) : (pc : Int) + off = (t : Int) := by
  unfold xjmp at h
  split at h
  · cases h; omega
  · cases h
