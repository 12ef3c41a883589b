/-- the script, the constant texts and the statics, where the evaluator has them -/
def xEx (G : xG) (sc : xS) (base : Nat) (xa : Nat → Nat) (U : State) (H : Heap) : Prop :=
  va_X (xa 0) sc.1 sc.2 U H ∧ (∀ i, i < (xByt G).length → va_O "java/lang/String" (xa (2 * i + 1)) (fun q => base ≤ q) U H ∧ va_OF "java/lang/String" "coder" "B" (.int 0) (xa (2 * i + 1)) (fun q => base ≤ q) U H ∧ va_OF "java/lang/String" "value" "[B" (.ref (xa (2 * i + 2))) (xa (2 * i + 1)) (fun q => base ≤ q) U H ∧ va_T .byte (xa (2 * i + 2)) ((xByt G).getD i []).length (fun j => .int (((xByt G).getD i []).getD j 0)) (fun q => base ≤ q) U H) ∧
  va_Z "java/lang/String" "COMPACT_STRINGS" "Z" (.int 1) (fun q => base ≤ q) U H ∧ va_Z "jdk/internal/util/Preconditions" "SIOOBE_FORMATTER" "Ljava/util/function/BiFunction;" (xv base xa (.retAddr 1000)) (fun q => base ≤ q) U H
theorem xEx.moved {G : xG} {sc : xS} {base : Nat} {xa : Nat → Nat} {u U : State} {H : Heap} (hvm : u.vm.Alike U.vm) (h : xEx G sc base xa u H) : xEx G sc base xa U H :=
  ⟨h.1.moved hvm, fun i hi => ⟨(h.2.1 i hi).1.moved hvm, (h.2.1 i hi).2.1.moved hvm, (h.2.1 i hi).2.2.1.moved hvm, (h.2.1 i hi).2.2.2.moved hvm⟩, h.2.2.1.moved hvm, h.2.2.2.moved hvm⟩
theorem xEx.kept {G : xG} {sc : xS} {base : Nat} {xa : Nat → Nat} {U : State} {H H1 : Heap} (h : xEx G sc base xa U H) (hb : xa 0 < base) (hge : base ≤ H.size) (hq : ∀ a : Nat, a < H.size → ¬ base ≤ a → H1[a]? = H[a]?) : xEx G sc base xa U H1 :=
  ⟨h.1.kept (hq _ (by omega) (by omega)), fun i hi => ⟨(h.2.1 i hi).1.kept hq, (h.2.1 i hi).2.1.kept hq, (h.2.1 i hi).2.2.1.kept hq, (h.2.1 i hi).2.2.2.kept hq⟩, h.2.2.1.kept hq, h.2.2.2.kept hq⟩
/-- what the tables must say of a program, so that the evaluator speaks of the machine -/
def xOK (G : xG) (cl : List vw_C) (Ts : List Cond) : Prop :=
  (∀ M pc i, xIns G M pc = some i → ∃ n, decode (xMet G M).2.1 pc = .ok (i, n) ∧ (xsw i = true ∨ n = xlen i)) ∧
  (∀ M k ci j, xFld G M k = some (ci, j) → ∃ (C : String) (T : u_T) (N : Nat), cl[ci]? = some (C, T, N) ∧ j < N ∧ (∀ w ∈ u_ws C T N, w ∈ Ts) ∧ Cond.fieldLink (xMet G M).1.cls k (T j).1 (T j).2.1 (T j).2.2.1 ∈ Ts) ∧
  (∀ M k ci j ty, xPut G M k = some (ci, j, ty) → ∃ (C : String) (T : u_T) (N : Nat) (ty0 : Nat → FieldType), cl[ci]? = some (C, T, N) ∧ j < N ∧ (∀ w ∈ u_ws C T N, w ∈ Ts) ∧ Cond.fieldLink (xMet G M).1.cls k (T j).1 (T j).2.1 (T j).2.2.1 ∈ Ts ∧ (∀ k, k < N → parseFieldDescriptor (T k).2.2.1 = some (ty0 k)) ∧ ty0 j = ty ∧ (∀ a, a < N → ∀ b, b < N → a ≠ b → (T a).2.1 ≠ (T b).2.1) ∧ ((T j).2.2.2 = false ∨ ((T j).2.2.2 = true ∧ (xMet G M).1.name = "<init>" ∧ (T j).1 = (xMet G M).1.cls))) ∧
  (∀ M k ci, xCls G M k = some ci → ∃ (C : String) (T : u_T) (N : Nat) (ty : Nat → FieldType), cl[ci]? = some (C, T, N) ∧ (∀ w ∈ u_ws C T N, w ∈ Ts) ∧ (∀ k, k < N → parseFieldDescriptor (T k).2.2.1 = some (ty k)) ∧ Cond.classLink (xMet G M).1.cls k C ∈ Ts ∧ Cond.instantiable C N ∈ Ts ∧ Cond.initialized C ∈ Ts ∧ (xDfl G ci).length = N ∧ (∀ base xa, (xDfl G ci).map (xv base xa) = xDfl G ci) ∧ ∀ j, j < N → defaultValue (ty j) = vp_V (xDfl G ci) j) ∧
  (∀ M k v, xCon G M k = some (.int v) → Jvm.Cond.constant (xMet G M).1.cls k v ∈ Ts) ∧
  (∀ M k v, xCon G M k = some (.long v) → Jvm.Cond.constantLong (xMet G M).1.cls k v ∈ Ts) ∧
  (Cond.arrayClass .int ∈ Ts ∧ Cond.arrayClass .long ∈ Ts ∧ Cond.arrayClass .byte ∈ Ts ∧ Cond.arrayClass .boolean ∈ Ts) ∧
  (∀ w ∈ Ts, goodWord w = true) ∧
  (∀ M k, xExf G M k = some 0 → Cond.fieldLink (xMet G M).1.cls k "java/lang/String" "value" "[B" ∈ Ts) ∧ (∀ M k, xExf G M k = some 1 → Cond.fieldLink (xMet G M).1.cls k "java/lang/String" "coder" "B" ∈ Ts) ∧
  (∀ M k v, xSta G M k = some v → (v = .int 1 ∧ Cond.fieldLink (xMet G M).1.cls k "java/lang/String" "COMPACT_STRINGS" "Z" ∈ Ts) ∨ (v = .retAddr 1000 ∧ Cond.fieldLink (xMet G M).1.cls k "jdk/internal/util/Preconditions" "SIOOBE_FORMATTER" "Ljava/util/function/BiFunction;" ∈ Ts))
section XH
variable {p : Program} {l : Launch} {e : Env} {R : Room} {s : State} {m : MethodId} {args : Array Value} {below : List Frame} {meth : Method} {c : Code} {H : Heap} {locs : List Loc} {cells slots : Nat} {Q : State → Prop}
variable {cc : ByteArray} {pc : Nat} {ls : Array Slot} {base : Nat} {xa : Nat → Nat} {D : va_G} {cl : List vw_C} {dA : FieldType → ClassId} {Ts : List Cond} {G : xG} {sc : xS}
theorem x_room {n : Nat} (hs : s.heap.size + cells = n) {g : JFrame} (k : H.size ≤ n → W p l e R s m args below meth c H locs cells slots Q g) : W p l e R s m args below meth c H locs cells slots Q g := by
  intro T hT X
  have h1 : (T.setVm s.vm).heap.size ≤ s.heap.size + cells := X.same.2.2.1
  have h2 : T.heap.size ≤ s.heap.size + cells := h1
  rw [hT, hs] at h2
  exact k h2 T hT X
theorem x_aft {h : xH} {a : Nat} {c1 : xE} {H1 : Heap} {locs1 : List Loc} (hw : xW D cl dA base xa h H) (hsz : H1.size ≤ base + h.length) (hP1 : va_P D cl ((xw dA base xa h).set a (base + a, xc dA base xa c1)) H1) (hS1 : va_S (fun q => base ≤ q) H H1 locs1) : xW D cl dA base xa (h.set a c1) H1 := by
  refine ⟨?_, by rw [xw_set]; exact hP1⟩
  have h1 := hS1.1
  have h2 := hw.1
  simp only [List.length_set]
  omega
theorem x_sS (hlc : ∀ q ∈ locs, base ≤ q.base) : va_S (fun q => base ≤ q) H H locs := ⟨Nat.le_refl _, fun _ _ _ => rfl, hlc⟩
theorem x_X {H1 : Heap} {locs1 : List Loc} (hX : xEx G sc base xa s H) (hbb : xa 0 < base) (hw : base ≤ H.size) (hS1 : va_S (fun q => base ≤ q) H H1 locs1) : xEx G sc base xa s H1 := hX.kept hbb hw (fun a h1 h2 => hS1.2.1 a h1 h2)
theorem x_ty {ty : FieldType} (h : xprim ty = true) : ∃ t0 : Nat, (xtys dA)[t0]? = some (dA ty, ty) := by
  cases ty <;> first | exact ⟨0, rfl⟩ | exact ⟨1, rfl⟩ | exact ⟨2, rfl⟩ | exact ⟨3, rfl⟩ | cases h
theorem x_in {j : Int32} {n : Nat} (h : ¬ (j < 0 ∨ n ≤ j.toNatClampNeg)) : vp_in j n := h
set_option maxHeartbeats 8000000 in
theorem xs4_ok (hG : xOK G cl Ts) {M : Nat} (hx : p.tables.exec = Jvm.exec) (hb : c.code = (xMet G M).2.1) (hown : s.vm.findClass (xMet G M).1.cls = some m.cls) (hts : ∀ w ∈ Ts, w.before args s = true) (hK : va_K D cl (xtys dA) s) (hin : (xMet G M).1.name = "<init>" → meth.name = "<init>") (hbb : xa 0 < base)
    {i : Instr} {st st' : List Value} {h h' : xH} (hd : decode (xMet G M).2.1 pc = .ok (i, xlen i)) (hX : xEx G sc base xa s H) (hs : s.heap.size + cells = base + h.length) (hw : xW D cl dA base xa h H) (hlc : ∀ q ∈ locs, base ≤ q.base) (hh : xs4 (xFld G M) (xPut G M) (xExf G M) (xSta G M) (xByt G) sc i st h = some (st', h'))
    (k : ∀ (H' : Heap) (locs' : List Loc), h'.length = h.length → xW D cl dA base xa h' H' → xEx G sc base xa s H' → (∀ q ∈ locs', base ≤ q.base) → W p l e R s m args below meth c H' locs' cells slots Q (F0 m (pc + xlen i) ls (st'.map (xv base xa)))) : W p l e R s m args below meth c H locs cells slots Q (F0 m pc ls (st.map (xv base xa))) := by
  have hge : base ≤ H.size := by have := hw.1; omega
  unfold xs4 at hh
  split at hh
  · split at hh
    · rename_i q1 q2
      split at hh
      · rename_i q3
        subst q3
        split at hh
        · rename_i q4
          cases hh
          obtain ⟨C, T, N, hc, hj, hwi, hlk⟩ := hG.2.1 _ _ _ _ q1
          exact va_get (D := D) (C := C) (T := T) (N := N) hx hb hts hwi hown hK hw.2 _ (xw_at dA base xa q2) hc _ hj (hts _ hlk) (fun _ z => z) (by rw [List.getElem?_map, q4]; rfl) hd (k H locs rfl hw hX hlc)
        · cases hh
      · cases hh
    · cases hh
  · split at hh
    · rename_i q0
      have hE := hX.2.1 _ q0.2
      have e2 : ∀ e : Nat, e % 2 = 1 → 2 * (e / 2) + 1 = e := fun e he => by omega
      have e9 : ∀ e : Nat, e % 2 = 1 → ¬ e = 1000 := fun e he => by omega
      simp only [List.map_cons, xv_ext base xa (e9 _ q0.1)]
      split at hh
      · rename_i q1
        split at hh
        · cases hh
        rename_i q9
        cases hh
        obtain ⟨cf, kk, fi, f, cell, h1, h2, h3, h4, h5, h6⟩ := hE.2.2.1
        rw [e2 _ q0.1] at h3
        have z := k H locs rfl hw hX hlc
        simp only [List.map_cons, xv_ext base xa ((fun e he h => by omega : ∀ e : Nat, e % 2 = 1 → ¬ e = 999 → ¬ 2 * (e / 2) + 2 = 1000) _ q0.1 q9)] at z
        exact W.getf hx hb hown (hts _ (hG.2.2.2.2.2.2.2.2.1 _ _ q1)) h1 h2 h3 h4 h5 rfl rfl hd z
      · rename_i q1
        cases hh
        obtain ⟨cf, kk, fi, f, cell, h1, h2, h3, h4, h5, h6⟩ := hE.2.1
        rw [e2 _ q0.1] at h3
        exact W.getf hx hb hown (hts _ (hG.2.2.2.2.2.2.2.2.2.1 _ _ q1)) h1 h2 h3 h4 h5 rfl rfl hd (k H locs rfl hw hX hlc)
      · cases hh
    · cases hh
  · split at hh
    · rename_i v q1
      cases hh
      rcases hG.2.2.2.2.2.2.2.2.2.2 _ _ _ q1 with ⟨rfl, z⟩ | ⟨rfl, z⟩
      · obtain ⟨cf, kf, fi, f, a, cell, h1, h2, h3, h4, h5, h6, h7, h8⟩ := hX.2.2.1
        exact W.gets hx hb hown (hts _ z) h1 h2 h3 h4 h5 (fun e => by rw [e] at h6; cases h6) h7 rfl hd (k H locs rfl hw hX hlc)
      · obtain ⟨cf, kf, fi, f, a, cell, h1, h2, h3, h4, h5, h6, h7, h8⟩ := hX.2.2.2
        exact W.gets hx hb hown (hts _ z) h1 h2 h3 h4 h5 (fun e => by rw [e] at h6; cases h6) h7 rfl hd (k H locs rfl hw hX hlc)
    · cases hh
  · split at hh
    · rename_i q1 q2
      split at hh
      · rename_i q3
        obtain ⟨q3, q4, q5, q6⟩ := q3
        subst q3
        cases hh
        obtain ⟨C, T, N, ty0, hc, hj, hwi, hlk, hty, hty2, hnm, hfi⟩ := hG.2.2.1 _ _ _ _ _ q1
        have hd1 := hty _ hj
        rw [hty2] at hd1
        rcases hfi with hfin | ⟨hfin, z1, z2⟩
        · exact va_put (D := D) (C := C) (T := T) (N := N) hx hb hts hwi ty0 hty hnm hown hK hw.2 (xw_D dA base xa h) (x_sS hlc) _ (xw_at dA base xa q2) hc _ hj (hts _ hlk) (fun _ z => z) hfin hd1 (x_nar base xa q6 q5) (x_fit base xa q6) (by simpa using q4) hd (fun H1 locs1 hP1 hD1 hS1 => x_room hs (fun hsz => k H1 locs1 (by simp) (x_aft hw hsz (by simp only [xc, List.map_set]; exact hP1) hS1) (x_X hX hbb hge hS1) hS1.2.2))
        · exact va_putF (D := D) (C := C) (T := T) (N := N) hx hb hts hwi ty0 hty hnm hown hK hw.2 (xw_D dA base xa h) (x_sS hlc) _ (xw_at dA base xa q2) hc _ hj (hts _ hlk) (fun _ z => z) hfin (hin z1) z2 hd1 (x_nar base xa q6 q5) (x_fit base xa q6) (by simpa using q4) hd (fun H1 locs1 hP1 hD1 hS1 => x_room hs (fun hsz => k H1 locs1 (by simp) (x_aft hw hsz (by simp only [xc, List.map_set]; exact hP1) hS1) (x_X hX hbb hge hS1) hS1.2.2))
      · cases hh
    · cases hh
  · split at hh
    · rename_i q1
      split at hh
      · rename_i q2
        cases hh
        obtain ⟨t0, ht⟩ := x_ty (dA := dA) q2
        exact va_alen hx hb hK hw.2 _ t0 (xw_at dA base xa q1) ht rfl hd (k H locs rfl hw hX hlc)
      · cases hh
    · cases hh
  · split at hh
    · rename_i q0
      subst q0
      cases hh
      exact va_slen hx hb hX.1 (A := fun q => base ≤ q) (H0 := H) (locs := locs) (by have := hbb; omega) (by show ¬ base ≤ xa 0; have := hbb; omega) (x_sS hlc) hd (k H locs rfl hw hX hlc)
    · split at hh
      · rename_i q0 q1
        cases hh
        obtain ⟨cell, h1, h2, h3, h4, h5, h6, h7⟩ := (hX.2.1 _ q1.2).2.2.2
        rw [show ∀ e : Nat, ¬ e = 0 → e % 2 = 0 → 2 * (e / 2 - 1) + 2 = e from fun e h0 he => by omega] at h1
        · simp only [List.map_cons, xv_ext base xa q1.1.2]
          exact W.alen hx hb h1 h2 h5 rfl rfl hd (k H locs rfl hw hX hlc)
        · exact q0
        · exact q1.1.1
      · cases hh
  · split at hh
    · rename_i q1
      split at hh
      · cases hh
      · rename_i q2
        cases hh
        exact va_iald hx hb hK hw.2 _ 0 (xw_at dA base xa q1) rfl (x_in q2) hd (k H locs rfl hw hX hlc)
    · cases hh
  · split at hh
    · cases hh
    · rename_i q2
      cases hh
      have q3 := Decidable.not_not.mp (fun z => q2 (Or.inl z))
      subst q3
      exact va_sld hx hb hX.1 (A := fun q => base ≤ q) (H0 := H) (locs := locs) (by have := hbb; omega) (by show ¬ base ≤ xa 0; have := hbb; omega) (x_sS hlc) (x_in (fun z => q2 (Or.inr z))) hd (k H locs rfl hw hX hlc)
  · split at hh
    · rename_i q1
      split at hh
      · cases hh
      · rename_i q2
        cases hh
        exact va_lald hx hb hK hw.2 _ 1 (xw_at dA base xa q1) rfl (x_in q2) hd (k H locs rfl hw hX hlc)
    · cases hh
  · split at hh
    · rename_i q1
      split at hh
      · cases hh
      · rename_i q2
        cases hh
        exact va_bald hx hb hK hw.2 _ 2 (xw_at dA base xa q1) rfl (x_in q2) hd (k H locs rfl hw hX hlc)
    · rename_i q1
      split at hh
      · cases hh
      · rename_i q2
        cases hh
        exact va_zald hx hb hK hw.2 _ 3 (xw_at dA base xa q1) rfl (x_in q2) hd (k H locs rfl hw hX hlc)
    · cases hh
  · split at hh
    · cases hh
    · rename_i q2
      cases hh
      rename_i j e r
      have n1 : ¬ e = 0 := fun z => q2 (Or.inl (Or.inl z))
      have n2 : ¬ e % 2 = 1 := fun z => q2 (Or.inl (Or.inr (Or.inl z)))
      have n6 : ¬ e = 1000 := fun z => q2 (Or.inl (Or.inr (Or.inr (Or.inl z))))
      have n3 : ¬ (xByt G).length ≤ e / 2 - 1 := fun z => q2 (Or.inl (Or.inr (Or.inr (Or.inr z))))
      have n4 : ¬ j < 0 := fun z => q2 (Or.inr (Or.inl z))
      have n5 : ¬ ((xByt G).getD (e / 2 - 1) []).length ≤ j.toNatClampNeg := fun z => q2 (Or.inr (Or.inr z))
      obtain ⟨cell, h1, h2, h3, h4, h5, h6, h7⟩ := (hX.2.1 (e / 2 - 1) (by omega)).2.2.2
      rw [show 2 * (e / 2 - 1) + 2 = e by omega] at h1
      simp only [List.map_cons, xv_ext base xa n6]
      exact W.bald hx hb h1 h2 h3 (by rintro (z | z); exact n4 z; omega) (h6 _ (by omega)) rfl rfl hd (k H locs rfl hw hX hlc)
  · split at hh
    · rename_i q1
      split at hh
      · cases hh
      · rename_i q2
        cases hh
        exact va_iast hx hb hK hw.2 (xw_D dA base xa h) (x_sS hlc) _ 0 (xw_at dA base xa q1) rfl (x_in q2) hd (fun H1 locs1 hP1 hD1 hS1 => x_room hs (fun hsz => k H1 locs1 (by simp) (x_aft hw hsz hP1 hS1) (x_X hX hbb hge hS1) hS1.2.2))
    · cases hh
  · split at hh
    · rename_i q1
      split at hh
      · cases hh
      · rename_i q2
        cases hh
        exact va_last hx hb hK hw.2 (xw_D dA base xa h) (x_sS hlc) _ 1 (xw_at dA base xa q1) rfl (x_in q2) hd (fun H1 locs1 hP1 hD1 hS1 => x_room hs (fun hsz => k H1 locs1 (by simp) (x_aft hw hsz hP1 hS1) (x_X hX hbb hge hS1) hS1.2.2))
    · cases hh
  · split at hh
    · rename_i q1
      split at hh
      · cases hh
      · rename_i q2
        cases hh
        exact va_bast hx hb hK hw.2 (xw_D dA base xa h) (x_sS hlc) _ 2 (xw_at dA base xa q1) rfl (x_in q2) hd (fun H1 locs1 hP1 hD1 hS1 => x_room hs (fun hsz => k H1 locs1 (by simp) (x_aft hw hsz hP1 hS1) (x_X hX hbb hge hS1) hS1.2.2))
    · rename_i q1
      split at hh
      · cases hh
      · rename_i q2
        cases hh
        exact va_zast hx hb hK hw.2 (xw_D dA base xa h) (x_sS hlc) _ 3 (xw_at dA base xa q1) rfl (x_in q2) hd (fun H1 locs1 hP1 hD1 hS1 => x_room hs (fun hsz => k H1 locs1 (by simp) (x_aft hw hsz hP1 hS1) (x_X hX hbb hge hS1) hS1.2.2))
    · cases hh
  · cases hh
end XH
