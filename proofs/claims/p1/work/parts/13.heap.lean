/-- what the tables must say of a program, so that the evaluator speaks of the machine -/
def xOK (G : xG) (cl : List vw_C) (Ts : List Cond) : Prop :=
  (∀ M pc i, xIns G M pc = some i → ∃ n, decode (xMet G M).2.1 pc = .ok (i, n) ∧ (xsw i = true ∨ n = xlen i)) ∧
  (∀ M k ci j, xFld G M k = some (ci, j) → ∃ (C : String) (T : u_T) (N : Nat), cl[ci]? = some (C, T, N) ∧ j < N ∧ (∀ w ∈ u_ws C T N, w ∈ Ts) ∧ Cond.fieldLink (xMet G M).1.cls k (T j).1 (T j).2.1 (T j).2.2.1 ∈ Ts) ∧
  (∀ M k ci j ty, xPut G M k = some (ci, j, ty) → ∃ (C : String) (T : u_T) (N : Nat) (ty0 : Nat → FieldType), cl[ci]? = some (C, T, N) ∧ j < N ∧ (∀ w ∈ u_ws C T N, w ∈ Ts) ∧ Cond.fieldLink (xMet G M).1.cls k (T j).1 (T j).2.1 (T j).2.2.1 ∈ Ts ∧ (∀ k, k < N → parseFieldDescriptor (T k).2.2.1 = some (ty0 k)) ∧ ty0 j = ty ∧ (∀ a, a < N → ∀ b, b < N → a ≠ b → (T a).2.1 ≠ (T b).2.1) ∧ ((T j).2.2.2 = false ∨ ((T j).2.2.2 = true ∧ (xMet G M).1.name = "<init>" ∧ (T j).1 = (xMet G M).1.cls))) ∧
  (∀ M k ci, xCls G M k = some ci → ∃ (C : String) (T : u_T) (N : Nat) (ty : Nat → FieldType), cl[ci]? = some (C, T, N) ∧ (∀ w ∈ u_ws C T N, w ∈ Ts) ∧ (∀ k, k < N → parseFieldDescriptor (T k).2.2.1 = some (ty k)) ∧ Cond.classLink (xMet G M).1.cls k C ∈ Ts ∧ Cond.instantiable C N ∈ Ts ∧ Cond.initialized C ∈ Ts ∧ (xDfl G ci).length = N ∧ (∀ base b, (xDfl G ci).map (xv base b) = xDfl G ci) ∧ ∀ j, j < N → defaultValue (ty j) = vp_V (xDfl G ci) j) ∧
  (∀ M k v, xCon G M k = some (.int v) → Jvm.Cond.constant (xMet G M).1.cls k v ∈ Ts) ∧
  (∀ M k v, xCon G M k = some (.long v) → Jvm.Cond.constantLong (xMet G M).1.cls k v ∈ Ts) ∧
  (Cond.arrayClass .int ∈ Ts ∧ Cond.arrayClass .long ∈ Ts ∧ Cond.arrayClass .byte ∈ Ts ∧ Cond.arrayClass .boolean ∈ Ts) ∧
  (∀ w ∈ Ts, goodWord w = true)
section XH
variable {p : Program} {l : Launch} {e : Env} {R : Room} {s : State} {m : MethodId} {args : Array Value} {below : List Frame} {meth : Method} {c : Code} {H : Heap} {locs : List Loc} {cells slots : Nat} {Q : State → Prop}
variable {cc : ByteArray} {pc : Nat} {ls : Array Slot} {base b : Nat} {D : va_G} {cl : List vw_C} {dA : FieldType → ClassId} {Ts : List Cond} {G : xG} {sc : xS}
theorem x_room {n : Nat} (hs : s.heap.size + cells = n) {g : JFrame} (k : H.size ≤ n → W p l e R s m args below meth c H locs cells slots Q g) : W p l e R s m args below meth c H locs cells slots Q g := by
  intro T hT X
  have h1 : (T.setVm s.vm).heap.size ≤ s.heap.size + cells := X.same.2.2.1
  have h2 : T.heap.size ≤ s.heap.size + cells := h1
  rw [hT, hs] at h2
  exact k h2 T hT X
theorem x_aft {h : xH} {a : Nat} {c1 : xE} {H1 : Heap} {locs1 : List Loc} (hw : xW D cl dA base b h H) (hsz : H1.size ≤ base + h.length) (hP1 : va_P D cl ((xw dA base b h).set a (base + a, xc dA base b c1)) H1) (hS1 : va_S (fun q => base ≤ q) H H1 locs1) : xW D cl dA base b (h.set a c1) H1 := by
  refine ⟨?_, by rw [xw_set]; exact hP1⟩
  have h1 := hS1.1
  have h2 := hw.1
  simp only [List.length_set]
  omega
theorem x_sS (hlc : ∀ q ∈ locs, base ≤ q.base) : va_S (fun q => base ≤ q) H H locs := ⟨Nat.le_refl _, fun _ _ _ => rfl, hlc⟩
theorem x_X {H1 : Heap} {locs1 : List Loc} {L : Nat} {xs : Nat → Int32} (hX : va_X b L xs s H) (hbb : b < base) (hw : base ≤ H.size) (hS1 : va_S (fun q => base ≤ q) H H1 locs1) : va_X b L xs s H1 := hX.kept (hS1.2.1 b (by omega) (by show ¬ base ≤ b; omega))
theorem x_ty {ty : FieldType} (h : xprim ty = true) : ∃ t0 : Nat, (xtys dA)[t0]? = some (dA ty, ty) := by
  cases ty <;> first | exact ⟨0, rfl⟩ | exact ⟨1, rfl⟩ | exact ⟨2, rfl⟩ | exact ⟨3, rfl⟩ | cases h
theorem x_in {j : Int32} {n : Nat} (h : ¬ (j < 0 ∨ n ≤ j.toNatClampNeg)) : vp_in j n := h
set_option maxHeartbeats 8000000 in
theorem xs4_ok (hG : xOK G cl Ts) {M : Nat} (hx : p.tables.exec = Jvm.exec) (hb : c.code = (xMet G M).2.1) (hown : s.vm.findClass (xMet G M).1.cls = some m.cls) (hts : ∀ w ∈ Ts, w.before args s = true) (hK : va_K D cl (xtys dA) s) (hin : (xMet G M).1.name = "<init>" → meth.name = "<init>") (hbb : b < base)
    {i : Instr} {st st' : List Value} {h h' : xH} (hd : decode (xMet G M).2.1 pc = .ok (i, xlen i)) (hX : va_X b sc.1 sc.2 s H) (hs : s.heap.size + cells = base + h.length) (hw : xW D cl dA base b h H) (hlc : ∀ q ∈ locs, base ≤ q.base) (hh : xs4 (xFld G M) (xPut G M) sc i st h = some (st', h'))
    (k : ∀ (H' : Heap) (locs' : List Loc), h'.length = h.length → xW D cl dA base b h' H' → va_X b sc.1 sc.2 s H' → (∀ q ∈ locs', base ≤ q.base) → W p l e R s m args below meth c H' locs' cells slots Q (F0 m (pc + xlen i) ls (st'.map (xv base b)))) : W p l e R s m args below meth c H locs cells slots Q (F0 m pc ls (st.map (xv base b))) := by
  have hge : base ≤ H.size := by have := hw.1; omega
  unfold xs4 at hh
  split at hh
  · split at hh
    · rename_i q1 q2
      split at hh
      · rename_i q3
        subst q3
        split at hh
        · rename_i q4
          cases hh
          obtain ⟨C, T, N, hc, hj, hwi, hlk⟩ := hG.2.1 _ _ _ _ q1
          exact va_get (D := D) (C := C) (T := T) (N := N) hx hb hts hwi hown hK hw.2 _ (xw_at dA base b q2) hc _ hj (hts _ hlk) (fun _ z => z) (by rw [List.getElem?_map, q4]; rfl) hd (k H locs rfl hw hX hlc)
        · cases hh
      · cases hh
    · cases hh
  · split at hh
    · rename_i q1 q2
      split at hh
      · rename_i q3
        obtain ⟨q3, q4, q5, q6⟩ := q3
        subst q3
        cases hh
        obtain ⟨C, T, N, ty0, hc, hj, hwi, hlk, hty, hty2, hnm, hfi⟩ := hG.2.2.1 _ _ _ _ _ q1
        have hd1 := hty _ hj
        rw [hty2] at hd1
        rcases hfi with hfin | ⟨hfin, z1, z2⟩
        · exact va_put (D := D) (C := C) (T := T) (N := N) hx hb hts hwi ty0 hty hnm hown hK hw.2 (xw_D dA base b h) (x_sS hlc) _ (xw_at dA base b q2) hc _ hj (hts _ hlk) (fun _ z => z) hfin hd1 (x_nar base b q6 q5) (x_fit base b q6) (by simpa using q4) hd (fun H1 locs1 hP1 hD1 hS1 => x_room hs (fun hsz => k H1 locs1 (by simp) (x_aft hw hsz (by simp only [xc, List.map_set]; exact hP1) hS1) (x_X hX hbb hge hS1) hS1.2.2))
        · exact va_putF (D := D) (C := C) (T := T) (N := N) hx hb hts hwi ty0 hty hnm hown hK hw.2 (xw_D dA base b h) (x_sS hlc) _ (xw_at dA base b q2) hc _ hj (hts _ hlk) (fun _ z => z) hfin (hin z1) z2 hd1 (x_nar base b q6 q5) (x_fit base b q6) (by simpa using q4) hd (fun H1 locs1 hP1 hD1 hS1 => x_room hs (fun hsz => k H1 locs1 (by simp) (x_aft hw hsz (by simp only [xc, List.map_set]; exact hP1) hS1) (x_X hX hbb hge hS1) hS1.2.2))
      · cases hh
    · cases hh
  · split at hh
    · rename_i q1
      split at hh
      · rename_i q2
        cases hh
        obtain ⟨t0, ht⟩ := x_ty (dA := dA) q2
        exact va_alen hx hb hK hw.2 _ t0 (xw_at dA base b q1) ht rfl hd (k H locs rfl hw hX hlc)
      · cases hh
    · cases hh
  · cases hh
    exact va_slen hx hb hX (A := fun q => base ≤ q) (H0 := H) (locs := locs) (by omega) (by show ¬ base ≤ b; omega) (x_sS hlc) hd (k H locs rfl hw hX hlc)
  · split at hh
    · rename_i q1
      split at hh
      · cases hh
      · rename_i q2
        cases hh
        exact va_iald hx hb hK hw.2 _ 0 (xw_at dA base b q1) rfl (x_in q2) hd (k H locs rfl hw hX hlc)
    · cases hh
  · split at hh
    · cases hh
    · rename_i q2
      cases hh
      exact va_sld hx hb hX (A := fun q => base ≤ q) (H0 := H) (locs := locs) (by omega) (by show ¬ base ≤ b; omega) (x_sS hlc) (x_in q2) hd (k H locs rfl hw hX hlc)
  · split at hh
    · rename_i q1
      split at hh
      · cases hh
      · rename_i q2
        cases hh
        exact va_lald hx hb hK hw.2 _ 1 (xw_at dA base b q1) rfl (x_in q2) hd (k H locs rfl hw hX hlc)
    · cases hh
  · split at hh
    · rename_i q1
      split at hh
      · cases hh
      · rename_i q2
        cases hh
        exact va_bald hx hb hK hw.2 _ 2 (xw_at dA base b q1) rfl (x_in q2) hd (k H locs rfl hw hX hlc)
    · rename_i q1
      split at hh
      · cases hh
      · rename_i q2
        cases hh
        exact va_zald hx hb hK hw.2 _ 3 (xw_at dA base b q1) rfl (x_in q2) hd (k H locs rfl hw hX hlc)
    · cases hh
  · split at hh
    · rename_i q1
      split at hh
      · cases hh
      · rename_i q2
        cases hh
        exact va_iast hx hb hK hw.2 (xw_D dA base b h) (x_sS hlc) _ 0 (xw_at dA base b q1) rfl (x_in q2) hd (fun H1 locs1 hP1 hD1 hS1 => x_room hs (fun hsz => k H1 locs1 (by simp) (x_aft hw hsz hP1 hS1) (x_X hX hbb hge hS1) hS1.2.2))
    · cases hh
  · split at hh
    · rename_i q1
      split at hh
      · cases hh
      · rename_i q2
        cases hh
        exact va_last hx hb hK hw.2 (xw_D dA base b h) (x_sS hlc) _ 1 (xw_at dA base b q1) rfl (x_in q2) hd (fun H1 locs1 hP1 hD1 hS1 => x_room hs (fun hsz => k H1 locs1 (by simp) (x_aft hw hsz hP1 hS1) (x_X hX hbb hge hS1) hS1.2.2))
    · cases hh
  · split at hh
    · rename_i q1
      split at hh
      · cases hh
      · rename_i q2
        cases hh
        exact va_bast hx hb hK hw.2 (xw_D dA base b h) (x_sS hlc) _ 2 (xw_at dA base b q1) rfl (x_in q2) hd (fun H1 locs1 hP1 hD1 hS1 => x_room hs (fun hsz => k H1 locs1 (by simp) (x_aft hw hsz hP1 hS1) (x_X hX hbb hge hS1) hS1.2.2))
    · rename_i q1
      split at hh
      · cases hh
      · rename_i q2
        cases hh
        exact va_zast hx hb hK hw.2 (xw_D dA base b h) (x_sS hlc) _ 3 (xw_at dA base b q1) rfl (x_in q2) hd (fun H1 locs1 hP1 hD1 hS1 => x_room hs (fun hsz => k H1 locs1 (by simp) (x_aft hw hsz hP1 hS1) (x_X hX hbb hge hS1) hS1.2.2))
    · cases hh
  · cases hh
end XH
