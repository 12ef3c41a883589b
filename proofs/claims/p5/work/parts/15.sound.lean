theorem xs1_len {i : Instr} {st st' : List Value} (h : xs1 i st = some st') : xsw i = false ∧ xlen i = 1 := by
  unfold xs1 at h
  split at h <;> first | exact ⟨rfl, rfl⟩ | cases h
theorem xs1d_len {i : Instr} {st st' : List Value} (h : xs1d i st = some st') : xsw i = false ∧ xlen i = 1 := by
  unfold xs1d at h
  split at h <;> first | exact ⟨rfl, rfl⟩ | cases h
theorem xs2_len {con : Nat → Option Value} {str : Nat → Option Nat} {nL : Nat} {i : Instr} {L : xL} {st : List Value} {r : xL × List Value} (h : xs2 con str nL i L st = some r) : xsw i = false := by
  unfold xs2 at h
  split at h <;> first | rfl | cases h
theorem xs4_len {fld : Nat → Option (Nat × Nat)} {put : Nat → Option (Nat × Nat × FieldType)} {exf : Nat → Option Nat} {sta : Nat → Option Value} {byt : List (List Int32)} {sc : xS} {i : Instr} {st : List Value} {h0 : xH} {r : List Value × xH} (h : xs4 fld put exf sta byt sc i st h0 = some r) : xsw i = false := by
  unfold xs4 at h
  split at h <;> first | rfl | cases h
theorem xret_len {i : Instr} {ty : Option FieldType} {v : Option Value} (h : xret i ty v = true) : xsw i = false ∧ xlen i = 1 := by
  unfold xret at h
  split at h <;> first | exact ⟨rfl, rfl⟩ | cases h
theorem xlink_len {mth : Nat → Option (Nat × Nat × Nat × Nat)} {i : Instr} {r : Nat × Nat × Nat × Nat} (h : xlink mth i = some r) : xsw i = false ∧ xlen i = 3 := by
  unfold xlink at h
  split at h <;> first | exact ⟨rfl, rfl⟩ | cases h
theorem x_n {i : Instr} {n k : Nat} (h : xsw i = true ∨ n = xlen i) (h1 : xsw i = false) (h2 : xlen i = k) : n = k := by
  rcases h with z | z
  · rw [h1] at z; cases z
  · exact z.trans h2
theorem xadd_some {k n : Nat} {o : Option xR} {r : xR} (h : xadd k n o = some r) : ∃ v h' a b, o = some (v, h', a, b) ∧ r = (v, h', k + a, n + b) := by
  unfold xadd at h
  split at h
  · cases h; exact ⟨_, _, _, _, rfl, rfl⟩
  · cases h
theorem xlink_in {mth : Nat → Option (Nat × Nat × Nat × Nat)} {i : Instr} {kind N k ci : Nat} (h : xlink mth i = some (kind, N, k, ci)) : (∃ idx, i = .invokevirtual idx ∧ kind = 0 ∧ mth idx = some (kind, N, k, ci)) ∨ (∃ idx, i = .invokestatic idx ∧ (kind = 1 ∨ kind = 7 ∨ kind = 8 ∨ kind = 9) ∧ mth idx = some (kind, N, k, ci)) ∨ (∃ idx, i = .invokespecial idx ∧ (kind = 4 ∨ kind = 5 ∨ kind = 6) ∧ mth idx = some (kind, N, k, ci)) := by
  unfold xlink at h
  split at h
  · split at h
    · rename_i q; cases h; exact Or.inl ⟨_, rfl, rfl, q⟩
    · cases h
  · split at h
    · rename_i q; cases h; exact Or.inr (Or.inl ⟨_, rfl, Or.inl rfl, q⟩)
    · rename_i q; cases h; exact Or.inr (Or.inl ⟨_, rfl, Or.inr (Or.inl rfl), q⟩)
    · rename_i q; cases h; exact Or.inr (Or.inl ⟨_, rfl, Or.inr (Or.inr (Or.inl rfl)), q⟩)
    · rename_i q; cases h; exact Or.inr (Or.inl ⟨_, rfl, Or.inr (Or.inr (Or.inr rfl)), q⟩)
    · cases h
  · split at h
    · rename_i q; cases h; exact Or.inr (Or.inr ⟨_, rfl, Or.inl rfl, q⟩)
    · rename_i q; cases h; exact Or.inr (Or.inr ⟨_, rfl, Or.inr (Or.inl rfl), q⟩)
    · rename_i q; cases h; exact Or.inr (Or.inr ⟨_, rfl, Or.inr (Or.inr rfl), q⟩)
    · cases h
  · cases h
theorem xhead_0 {nb ci : Nat} {as : List Value} {h : xH} (q : xhead nb 0 ci as h = true) : (∃ a r fs, as = .ref a :: r ∧ h[a]? = some (.inr (ci, fs)) ∧ ¬ ci = 98) ∨ ∃ e r, as = .retAddr e :: r ∧ ci = 98 ∧ e % 2 = 1 ∧ e / 2 < nb := by
  cases as with
  | nil => cases q
  | cons v r =>
    cases v with
    | ref a =>
      have q : (match h[a]? with | some (.inr (cj, _)) => ci == cj && !(ci == 98) | _ => false) = true := q
      split at q
      · rename_i cj fs q2
        simp only [Bool.and_eq_true, beq_iff_eq, Bool.not_eq_true', beq_eq_false_iff_ne, ne_eq] at q
        obtain ⟨rfl, q3⟩ := q
        exact Or.inl ⟨a, r, fs, rfl, q2, q3⟩
      · cases q
    | retAddr e =>
      have q : (ci == 98 && e % 2 == 1 && decide (e / 2 < nb)) = true := q
      simp only [Bool.and_eq_true, beq_iff_eq, decide_eq_true_eq] at q
      exact Or.inr ⟨e, r, rfl, q.1.1, q.1.2, q.2⟩
    | _ => cases q
theorem xhead_4 {nb kind ci : Nat} {as : List Value} {h : xH} (hk : kind = 4 ∨ kind = 5) (q : xhead nb kind ci as h = true) : ∃ a r, as = .ref a :: r := by
  cases as with
  | nil => rcases hk with rfl | rfl <;> cases q
  | cons v r =>
    cases v with
    | ref a => exact ⟨a, r, rfl⟩
    | _ => rcases hk with rfl | rfl <;> cases q
section XSD
variable {p : Program} {l : Launch} {e : Env} {R : Room} {s : State} {m : MethodId} {args : Array Value} {below : List Frame} {meth : Method} {c : Code} {H : Heap} {locs : List Loc} {cells slots : Nat} {Q : State → Prop}
variable {cc : ByteArray} {pc : Nat} {ls : Array Slot} {base : Nat} {xa : Nat → Nat} {D : va_G} {cl : List vw_C} {dA : FieldType → ClassId} {Ts : List Cond} {Ns : xNs} {G : xG} {sc : xS}
set_option maxHeartbeats 4000000 in
theorem xcopy_ok (hx : p.tables.exec = Jvm.exec) (hb : c.code = cc) (hml : c.maxLocals = ls.size) {own : String} {idx : Nat} (hown : s.vm.findClass own = some m.cls) (hlink : (Cond.methodLink own idx arraycopyName).before args s = true) (hnat : (Cond.native arraycopyName).before args s = true) (hstat : (Cond.static arraycopyName).before args s = true) (hini : (Cond.initialized "java/lang/System").before args s = true) (hK : va_K D cl (xtys dA) s) (hbb : xa 0 < base)
    {st st' : List Value} {h h' : xH} (hd : decode cc pc = .ok (.invokestatic idx, 3)) (hX : xEx G sc base xa s H) (hs : s.heap.size + cells = base + h.length) (hw : xW D cl dA base xa h H) (hlc : ∀ q ∈ locs, base ≤ q.base) (hfr : 1 ≤ R.frames) (hlo : 26 ≤ R.locals) (hh : xcopy st h = some (st', h'))
    (k : ∀ (H' : Heap) (locs' : List Loc), h'.length = h.length → xW D cl dA base xa h' H' → xEx G sc base xa s H' → (∀ q ∈ locs', base ≤ q.base) → W p l e R s m args below meth c H' locs' cells slots Q (F0 m (pc + 3) ls (st'.map (xv base xa)))) : W p l e R s m args below meth c H locs cells slots Q (F0 m pc ls (st.map (xv base xa))) := by
  have hge : base ≤ H.size := by have := hw.1; omega
  unfold xcopy at hh
  split at hh
  · split at hh
    · cases hh
    · rename_i n dp a1 sp a0 r q0
      have n1 : ¬ n < 0 := fun z => q0 (Or.inl z)
      have n2 : ¬ dp < 0 := fun z => q0 (Or.inr (Or.inl z))
      have n3 : ¬ sp < 0 := fun z => q0 (Or.inr (Or.inr (Or.inl z)))
      have n4 : (r.map (fun v => v.category)).sum ≤ 8 := by
        rcases Nat.lt_or_ge 8 (r.map (fun v => v.category)).sum with z | z
        · exact absurd (Or.inr (Or.inr (Or.inr z))) q0
        · exact z
      have n5 : ((r.map (xv base xa)).map (fun v => v.category)).sum + (nativeFrameWords "java/lang/System" "arraycopy" 5 + 11) ≤ R.locals := by
        have e1 : (r.map (xv base xa)).map (fun v => v.category) = r.map (fun v => v.category) := by
          rw [List.map_map]; apply List.map_congr_left; intro v _; exact xv_cat base xa v
        rw [e1]
        have e2 : nativeFrameWords "java/lang/System" "arraycopy" 5 = 7 := by decide +kernel
        rw [e2]
        omega
      split at hh
      · rename_i m0 f m1 g q1 q2
        split at hh
        · rename_i q3
          cases hh
          exact va_copyi hx hb hml hown hlink hnat hstat hini hK hw.2 (xw_D dA base xa h) (x_sS hlc) _ _ 0 0 (xw_at dA base xa q1) (xw_at dA base xa q2) rfl rfl rfl n3 n2 n1 q3.1 q3.2 (fun i _ => rfl) hfr n5 hd (fun H1 locs1 hP1 hD1 hS1 => x_room hs (fun hsz => k H1 locs1 (by simp) (x_aft hw hsz hP1 hS1) (x_X hX hbb hge hS1) hS1.2.2))
        · cases hh
      · rename_i m0 f m1 g q1 q2
        split at hh
        · rename_i q3
          cases hh
          exact va_copyl hx hb hml hown hlink hnat hstat hini hK hw.2 (xw_D dA base xa h) (x_sS hlc) _ _ 1 1 (xw_at dA base xa q1) (xw_at dA base xa q2) rfl rfl rfl n3 n2 n1 q3.1 q3.2 (fun i _ => rfl) hfr n5 hd (fun H1 locs1 hP1 hD1 hS1 => x_room hs (fun hsz => k H1 locs1 (by simp) (x_aft hw hsz hP1 hS1) (x_X hX hbb hge hS1) hS1.2.2))
        · cases hh
      · rename_i m0 f m1 g q1 q2
        split at hh
        · rename_i q3
          cases hh
          exact va_copyi hx hb hml hown hlink hnat hstat hini hK hw.2 (xw_D dA base xa h) (x_sS hlc) _ _ 2 2 (xw_at dA base xa q1) (xw_at dA base xa q2) rfl rfl rfl n3 n2 n1 q3.1.1 q3.1.2 (fun i hi => List.all_eq_true.mp q3.2 i (List.mem_range.mpr hi)) hfr n5 hd (fun H1 locs1 hP1 hD1 hS1 => x_room hs (fun hsz => k H1 locs1 (by simp) (x_aft hw hsz hP1 hS1) (x_X hX hbb hge hS1) hS1.2.2))
        · cases hh
      · cases hh
  · cases hh
theorem x_rest (r : List Value) (h : ¬ 8 < (r.map (fun v => v.category)).sum) : ((r.map (xv base xa)).map (fun v => v.category)).sum ≤ 8 := by
  have e1 : (r.map (xv base xa)).map (fun v => v.category) = r.map (fun v => v.category) := by
    rw [List.map_map]; apply List.map_congr_left; intro v _; exact xv_cat base xa v
  rw [e1]
  omega
set_option maxHeartbeats 4000000 in
/-- a call, whatever its kind: the callee's run is known -/
theorem xcall_ok (hG : xOK G cl Ts) (hM : xOKm G cl Ts Ns) {n : Nat} (ih : xSnd G Ts Ns D cl dA base xa sc l n) {M : Nat} (hA : xAt G Ts Ns D cl dA base xa M p s m args meth c) {i : Instr} {kind N k ci d : Nat} {st : List Value} {h : xH} {r1 : xR} (hd : decode (xMet G M).2.1 pc = .ok (i, 3)) (hlk : xlink (xMth G M) i = some (kind, N, k, ci))
    (h1 : ¬ st.length < k) (h2 : ¬ 8 < ((st.drop k).map (fun v => v.category)).sum) (h3 : ¬ (xMet G N).2.2.1 < (lg_sl (st.take k).reverse).length) (h4 : xhead (xByt G).length kind ci (st.take k).reverse h = true) (hr1 : xev G sc n d N 0 (lv_args 0 (st.take k).reverse) [] h = some r1)
    (hX : xEx G sc base xa s H) (hw : xW D cl dA base xa h H) (hlc : ∀ q ∈ locs, base ≤ q.base) (hl : ls.size = (xMet G M).2.2.1) (hfr : d + 1 ≤ R.frames) (hlo : 64 * (d + 1) ≤ R.locals) (hc : cells + r1.2.2.1 ≤ R.cells) (hsl : slots + r1.2.2.2 ≤ R.slots)
    (kk : ∀ (H' : Heap) (locs' : List Loc), h.length + r1.2.2.1 = r1.2.1.length → xW D cl dA base xa r1.2.1 H' → xEx G sc base xa s H' → (∀ q ∈ locs', base ≤ q.base) → W p l e R s m args below meth c H' locs' (cells + r1.2.2.1) (slots + r1.2.2.2) Q (F0 m (pc + 3) ls ((r1.1.toList ++ st.drop k).map (xv base xa)))) : W p l e R s m args below meth c H locs cells slots Q (F0 m pc ls (st.map (xv base xa))) := by
  obtain ⟨hx, hb, hml, hown, hts, hK, hin, hbb, hN⟩ := hA
  have good : ∀ w ∈ Ts, goodWord w = true := hG.2.2.2.2.2.2.2.1
  have h3' : (lg_sl (st.take k).reverse).length ≤ (xMet G N).2.2.1 := Nat.not_lt.mp h3
  have hrest := x_rest (base := base) (xa := xa) (st.drop k) h2
  have hroom := lv_room (m := m) (pc := pc) (ls := ls) (rest := st.map (xv base xa)) hrest
  have hsplit : st.map (xv base xa) = ((st.take k).reverse.map (xv base xa)).reverse ++ (st.drop k).map (xv base xa) := by
    rw [List.map_reverse, List.reverse_reverse, ← List.map_append, List.take_append_drop]
  have hlenas : (st.take k).reverse.length = k := by rw [List.length_reverse, List.length_take]; omega
  have fin : ∀ {a : Array Value}, va_Run p l e R s m args below meth c H locs cells slots r1.2.2.1 r1.2.2.2 (F0 m pc ls (st.map (xv base xa))) ((st.drop k).map (xv base xa)) (xQc G D cl dA base xa sc h r1 a) (fun q => base ≤ q) → W p l e R s m args below meth c H locs cells slots Q (F0 m pc ls (st.map (xv base xa))) := by
    intro a hrun
    refine x_call hrun (fun q z => z) hlc ?_
    intro v st₀ t locs1 hvm hq hlc1
    obtain ⟨e1, e2, e3, e4, e5⟩ := hq
    cases e1
    have := kk t.heap locs1 e2 e3 (xEx.moved hvm.symm e4) hlc1
    rw [List.map_append] at this
    cases hv : r1.1 with
    | none => rw [hv] at this; exact this
    | some z => rw [hv] at this; exact this
  have hgi : ∀ {y : MethodName} {bs : ByteArray} {mL : Nat} {rt : Option FieldType}, Cond.code y bs mL rt ∈ Ts → GoodIn Ts (Cond.code y bs mL rt :: Ts) := fun c2 w hw => by
    rcases List.mem_cons.mp hw with z | z
    · rw [z]; exact ⟨c2, good_of_word (good _ c2)⟩
    · exact ⟨z, good_of_word (good _ z)⟩
  rcases xlink_in hlk with ⟨idx, rfl, rfl, q1⟩ | ⟨idx, rfl, hk, q1⟩ | ⟨idx, rfl, hk, q1⟩
  · obtain ⟨⟨c1, c2, c3, c4, c5⟩, c6, c7, c8, c9, c10, c11⟩ := hM.2 _ _ _ _ _ _ q1
    have hmet := x_met ih hbb (d := d) hr1 h3' c1
    have hcw : CallW R s args (xMet G M).1.cls (xMet G N).1.cls idx (xMet G N).1 (xMet G N).2.1 (xMet G N).2.2.1 (xMet G N).2.2.2 (Cond.code (xMet G N).1 (xMet G N).2.1 (xMet G N).2.2.1 (xMet G N).2.2.2 :: Ts) { frames := d, cells := r1.2.2.1, slots := r1.2.2.2, locals := 64 * d } r1.2.2.1 r1.2.2.2 (k - 1) :=
      ⟨callB_of (k - 1) hts (hgi c2) rfl rfl rfl (hts _ c3) (hts _ c9) ⟨c4.1, c4.2, c6⟩ ⟨hfr, by show 8 + ((xMet G N).2.2.1 + 11) + 64 * d ≤ R.locals; omega⟩, hts _ c10, hts _ c11⟩
    rcases xhead_0 h4 with ⟨a, rest', fs, qz, q2, q3⟩ | ⟨e, rest', qz, q3, q4, q5⟩
    · obtain ⟨T, NN, c8⟩ : ∃ T NN, cl[ci]? = some ((xMet G N).1.cls, T, NN) := by
        rcases c8 with z | z
        · exact absurd z.1 q3
        · exact z.2
      have hw' := xw_at dA base xa q2
      rw [qz] at hmet hsplit hlenas
      exact fin (va_runV (As := rest'.map (xv base xa)) (b := base + a) (nL := (xMet G M).2.2.1) (Ts := Ts) ⟨hx, hb, hml, hown, hts⟩ hmet hcw ⟨xPc_blind _ _, va_recv hK hw.2 (q0 := a) c8 hw', fun U hU hW => ⟨rfl, by rw [hU]; exact hw, by rw [hU]; exact xEx.moved hW.alike hX, va_K.moved hW.alike hK, hN.warm hW⟩⟩ rfl (by rw [List.length_map]; simp only [List.length_cons] at hlenas; omega) hl (by rw [hsplit]; simp [xv]) hroom hd ⟨hc, hsl⟩)
    · have c8 : (xMet G N).1.cls = "java/lang/String" := by
        rcases c8 with z | z
        · exact z.2
        · exact absurd q3 z.1
      have hrc : ∃ cell : Cell, H[xa e]? = some cell ∧ cell.vm.isStatics = false ∧ s.vm.findClass (xMet G N).1.cls = some cell.cls := by
        obtain ⟨cell, h1, h2, h3, -⟩ := (hX.2.1 _ q5).1
        rw [show 2 * (e / 2) + 1 = e by omega] at h1
        exact ⟨cell, h1, h2, by rw [c8]; exact h3⟩
      rw [qz] at hmet hsplit hlenas
      exact fin (va_runV (As := rest'.map (xv base xa)) (b := xa e) (nL := (xMet G M).2.2.1) (Ts := Ts) ⟨hx, hb, hml, hown, hts⟩ hmet hcw ⟨xPc_blind _ _, hrc, fun U hU hW => ⟨by simp [xv_ext base xa (show ¬ e = 1000 by omega)], by rw [hU]; exact hw, by rw [hU]; exact xEx.moved hW.alike hX, va_K.moved hW.alike hK, hN.warm hW⟩⟩ rfl (by rw [List.length_map]; simp only [List.length_cons] at hlenas; omega) hl (by rw [hsplit]; simp [xv_ext base xa (show ¬ e = 1000 by omega)]) hroom hd ⟨hc, hsl⟩)
  · rcases hk with rfl | rfl | rfl | rfl
    · obtain ⟨⟨c1, c2, c3, c4, c5⟩, c6, c7, c8⟩ := hM.2 _ _ _ _ _ _ q1
      have hmet := x_met ih hbb (d := d) hr1 h3' c1
      exact fin (va_runS (As := (st.take k).reverse.map (xv base xa)) (nL := (xMet G M).2.2.1) (Ts := Ts) (n := k) ⟨hx, hb, hml, hown, hts⟩ hmet ⟨callB_of k hts (hgi c2) rfl rfl rfl (hts _ c3) (hts _ c7) ⟨c4.1, c4.2, c6⟩ ⟨hfr, by show 8 + ((xMet G N).2.2.1 + 11) + 64 * d ≤ R.locals; omega⟩, hts _ c8⟩ ⟨xPc_blind _ _, fun U hU hW => ⟨rfl, by rw [hU]; exact hw, by rw [hU]; exact xEx.moved hW.alike hX, va_K.moved hW.alike hK, hN.warm hW⟩⟩ rfl (by rw [List.length_map]; exact hlenas) hl hsplit hroom hd ⟨hc, hsl⟩)
    · cases h4
    · cases h4
    · cases h4
  · rcases hk with rfl | rfl | rfl
    · obtain ⟨⟨c1, c2, c3, c4, c5⟩, c6, c7, c8, c9, c10, c11⟩ := hM.2 _ _ _ _ _ _ q1
      have hmet := x_met ih hbb (d := d) hr1 h3' c1
      obtain ⟨a, rest', qz⟩ := xhead_4 (Or.inl rfl) h4
      rw [qz] at hmet hsplit hlenas
      rw [c11] at hmet c2
      exact fin (va_runI (As := rest'.map (xv base xa)) (b := base + a) (nL := (xMet G M).2.2.1) (Ts := Ts) (n := k - 1) ⟨hx, hb, hml, hown, hts⟩ hmet ⟨callB_of (k - 1) hts (hgi c2) rfl rfl rfl (hts _ c3) (hts _ c8) ⟨c4.1, c4.2, c6⟩ ⟨hfr, by show 8 + ((xMet G N).2.2.1 + 11) + 64 * d ≤ R.locals; omega⟩, c9, hts _ c10⟩ ⟨xPc_blind _ _, fun U hU hW => ⟨rfl, by rw [hU]; exact hw, by rw [hU]; exact xEx.moved hW.alike hX, va_K.moved hW.alike hK, hN.warm hW⟩⟩ rfl (by rw [List.length_map]; simp only [List.length_cons] at hlenas; omega) hl (by rw [hsplit]; simp [xv]) hroom hd ⟨hc, hsl⟩)
    · obtain ⟨⟨c1, c2, c3, c4, c5⟩, c6, c7, ⟨host, c8⟩, c9, c10, c11⟩ := hM.2 _ _ _ _ _ _ q1
      have hmet := x_met ih hbb (d := d) hr1 h3' c1
      obtain ⟨a, rest', qz⟩ := xhead_4 (Or.inr rfl) h4
      rw [qz] at hmet hsplit hlenas
      rw [c11] at hmet c2
      exact fin (va_runIN (As := rest'.map (xv base xa)) (b := base + a) (nL := (xMet G M).2.2.1) (Ts := Ts) (n := k - 1) ⟨hx, hb, hml, hown, hts⟩ hmet ⟨va_cnB (k - 1) hts (hgi c2) rfl rfl rfl (hN.1 _ c8) (hts _ c3) ⟨c4.1, c4.2, c6⟩ ⟨hfr, by show 8 + ((xMet G N).2.2.1 + 11) + 64 * d ≤ R.locals; omega⟩, c9, hts _ c10⟩ ⟨xPc_blind _ _, fun U hU hW => ⟨rfl, by rw [hU]; exact hw, by rw [hU]; exact xEx.moved hW.alike hX, va_K.moved hW.alike hK, hN.warm hW⟩⟩ rfl (by rw [List.length_map]; simp only [List.length_cons] at hlenas; omega) hl (by rw [hsplit]; simp [xv]) hroom hd ⟨hc, hsl⟩)
    · cases h4
end XSD
