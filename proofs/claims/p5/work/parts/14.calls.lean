/-- nest mates' links -/
abbrev xNs : Type := List (String × Nat × MethodName × String) × List (String × Nat × String × Nat)
def xN (Ns : xNs) (xa : Nat → Nat) (U : State) : Prop := (∀ q ∈ Ns.1, va_Nw (.methodLinkNest q.1 q.2.1 q.2.2.1 q.2.2.2) U) ∧ ∀ q ∈ Ns.2, vk_R q.1 q.2.1 q.2.2.1 (xa (2 * q.2.2.2 + 1)) U
theorem xN.warm {Ns : xNs} {xa : Nat → Nat} {s U : State} (hW : s.WarmedH U.vm) (h : xN Ns xa s) : xN Ns xa U := ⟨fun q hq => va_Nw.warmM hW (h.1 q hq), fun q hq => (h.2 q hq).warm hW⟩
/-- what the tables must say of a call -/
def xOKc (G : xG) (cl : List vw_C) (Ts : List Cond) (Ns : xNs) (own : String) (k kind N na ci : Nat) : Prop := match kind with
  | 6 => Cond.methodLink own k Lib.objectInit ∈ Ts ∧ Cond.instanceMethod Lib.objectInit ∈ Ts ∧ Cond.code Lib.objectInit ⟨#[0xb1]⟩ 1 none ∈ Ts
  | 7 => Cond.methodLink own k arraycopyName ∈ Ts ∧ Cond.native arraycopyName ∈ Ts ∧ Cond.static arraycopyName ∈ Ts ∧ Cond.initialized "java/lang/System" ∈ Ts
  | 8 => Cond.methodLink own k Lib.Math.max.name ∈ Ts ∧ Cond.static Lib.Math.max.name ∈ Ts ∧ Cond.initialized "java/lang/Math" ∈ Ts ∧ Cond.code Lib.Math.max.name Lib.Math.max.code 2 (some .int) ∈ Ts
  | 9 => Cond.methodLink own k Lib.Math.min.name ∈ Ts ∧ Cond.static Lib.Math.min.name ∈ Ts ∧ Cond.initialized "java/lang/Math" ∈ Ts ∧ Cond.code Lib.Math.min.name Lib.Math.min.code 2 (some .int) ∈ Ts
  | _ => (plainName (xMet G N).1.cls = true ∧ Cond.code (xMet G N).1 (xMet G N).2.1 (xMet G N).2.2.1 (xMet G N).2.2.2 ∈ Ts ∧ Cond.initialized (xMet G N).1.cls ∈ Ts ∧ ((xMet G N).1.cls ≠ "java/lang/invoke/MethodHandle" ∧ (xMet G N).1.cls ≠ "java/lang/invoke/VarHandle") ∧ (xMet G N).2.2.1 ≤ 40) ∧ match kind with
    | 0 => (parseMethodDescriptor (xMet G N).1.desc).map (fun d => d.parameters.length) = some (na - 1) ∧ 0 < na ∧ ((ci = 98 ∧ (xMet G N).1.cls = "java/lang/String") ∨ (¬ ci = 98 ∧ ∃ T NN, cl[ci]? = some ((xMet G N).1.cls, T, NN))) ∧ Cond.methodLink own k (xMet G N).1 ∈ Ts ∧ Cond.instanceMethod (xMet G N).1 ∈ Ts ∧ Cond.selects (xMet G N).1.cls (xMet G N).1 (xMet G N).1 ∈ Ts
    | 1 => (parseMethodDescriptor (xMet G N).1.desc).map (fun d => d.parameters.length) = some na ∧ Cond.methodLink own k (xMet G N).1 ∈ Ts ∧ Cond.static (xMet G N).1 ∈ Ts
    | 4 => (parseMethodDescriptor (xMet G N).1.desc).map (fun d => d.parameters.length) = some (na - 1) ∧ 0 < na ∧ Cond.methodLink own k (xMet G N).1 ∈ Ts ∧ (xMet G N).1.name = "<init>" ∧ Cond.instanceMethod (xMet G N).1 ∈ Ts ∧ (xMet G N).2.2.2 = none
    | 5 => (parseMethodDescriptor (xMet G N).1.desc).map (fun d => d.parameters.length) = some (na - 1) ∧ 0 < na ∧ (∃ host, (own, k, (xMet G N).1, host) ∈ Ns.1) ∧ (xMet G N).1.name = "<init>" ∧ Cond.instanceMethod (xMet G N).1 ∈ Ts ∧ (xMet G N).2.2.2 = none
    | _ => False
def xOKm (G : xG) (cl : List vw_C) (Ts : List Cond) (Ns : xNs) : Prop := (∀ M k i, xStr G M k = some i → ∃ tx, ((xMet G M).1.cls, k, tx, i) ∈ Ns.2) ∧ ∀ M k kind N na ci, xMth G M k = some (kind, N, na, ci) → xOKc G cl Ts Ns (xMet G M).1.cls k kind N na ci
section XC
variable {p : Program} {l : Launch} {e : Env} {R : Room} {s : State} {m : MethodId} {args : Array Value} {below : List Frame} {meth : Method} {c : Code} {H : Heap} {locs : List Loc} {cells slots : Nat} {Q : State → Prop}
variable {cc : ByteArray} {pc : Nat} {ls : Array Slot} {base : Nat} {xa : Nat → Nat} {D : va_G} {cl : List vw_C} {dA : FieldType → ClassId} {Ts : List Cond} {Ns : xNs} {G : xG} {sc : xS}
theorem x_fresh {h : xH} {q : Nat} {ce : va_E} {H1 : Heap} (hsz : H1.size ≤ base + (h.length + 1)) (hP1 : va_P D cl (xw dA base xa h ++ [(q, ce)]) H1) (hD1 : va_D (fun q => base ≤ q) (xw dA base xa h ++ [(q, ce)])) : q = base + h.length ∧ H1.size = base + (h.length + 1) := by
  have hq : (xw dA base xa h ++ [(q, ce)])[h.length]? = some (q, ce) := by
    rw [List.getElem?_append_right (by rw [xw_len]; exact Nat.le_refl _), xw_len, Nat.sub_self]; rfl
  have h1 : q < H1.size := (hP1 _ _ hq).lt
  have h2 : base ≤ q := hD1.2 _ _ hq
  have h3 : q = base + h.length := by
    rcases Nat.lt_or_ge q (base + h.length) with z | z
    · exfalso
      have hi : q - base < h.length := by omega
      have e1 : (xw dA base xa h ++ [(q, ce)])[q - base]? = some (base + (q - base), xc dA base xa h[q - base]) := by
        rw [List.getElem?_append_left (by rw [xw_len]; exact hi)]
        exact xw_at dA base xa (List.getElem?_eq_getElem hi)
      have := hD1.1 _ _ _ _ e1 hq (by show base + (q - base) = q; omega)
      omega
    · omega
  exact ⟨h3, by omega⟩
theorem x_arrEq {ty : FieldType} {cA : ClassId} (hp : xprim ty = true) (hK : va_K D cl (xtys dA) s) (hK2 : va_K D cl (xtys dA ++ [(cA, ty)]) s) : cA = dA ty := by
  have h1 := (hK2.2 4 (cA, ty) rfl).2
  obtain ⟨t0, ht⟩ := x_ty (dA := dA) hp
  have h2 := (hK.2 t0 _ ht).2
  cases ty <;> first | exact Option.some.inj (h1.symm.trans h2) | cases hp
theorem x_call {mc ms : Nat} {st0 rest : List Value} {Qa : State → Outcome → State → Prop} {free : Addr → Prop} (hr : va_Run p l e R s m args below meth c H locs cells slots mc ms (F0 m pc ls st0) rest Qa free) (hf : ∀ q, free q → base ≤ q) (hlc : ∀ q ∈ locs, base ≤ q.base)
    (kk : ∀ (v : Option Value) (st₀ t : State) (locs1 : List Loc), s.vm.Alike t.vm → Qa st₀ (.returned v) t → (∀ q ∈ locs1, base ≤ q.base) → W p l e R s m args below meth c t.heap locs1 (cells + mc) (slots + ms) Q (F0 m (pc + 3) ls (v.toList ++ rest))) : W p l e R s m args below meth c H locs cells slots Q (F0 m pc ls st0) := by
  intro T hT X
  obtain ⟨v, st₀, t, T', L, h0, X', hL, e1, e2, hq, st⟩ := hr T hT X
  obtain ⟨t2, a1, b1⟩ := kk v st₀ t (locs ++ L) (by rw [← e2]; exact X'.warmed.alike) hq (fun q hq => by
    rcases List.mem_append.mp hq with h | h
    · exact hlc q h
    · exact hf _ (hL q h)) T' e1 X'
  exact ⟨t2, st t2 a1, b1⟩
/-- what is known inside a method's body -/
def xAt (G : xG) (Ts : List Cond) (Ns : xNs) (D : va_G) (cl : List vw_C) (dA : FieldType → ClassId) (base : Nat) (xa : Nat → Nat) (M : Nat) (p : Program) (s : State) (m : MethodId) (args : Array Value) (meth : Method) (c : Code) : Prop :=
  p.tables.exec = Jvm.exec ∧ c.code = (xMet G M).2.1 ∧ c.maxLocals = (xMet G M).2.2.1 ∧ s.vm.findClass (xMet G M).1.cls = some m.cls ∧ (∀ w ∈ Ts, w.before args s = true) ∧ va_K D cl (xtys dA) s ∧ ((xMet G M).1.name = "<init>" → meth.name = "<init>") ∧ xa 0 < base ∧ xN Ns xa s
/-- the contract of a run of a method: what it starts from, what it leaves -/
def xPc (G : xG) (Ns : xNs) (D : va_G) (cl : List vw_C) (dA : FieldType → ClassId) (base : Nat) (xa : Nat → Nat) (sc : xS) (as : List Value) (h : xH) : Array Value → State → Prop := fun v U => v = (as.map (xv base xa)).toArray ∧ xW D cl dA base xa h U.heap ∧ xEx G sc base xa U U.heap ∧ va_K D cl (xtys dA) U ∧ xN Ns xa U
def xQc (G : xG) (D : va_G) (cl : List vw_C) (dA : FieldType → ClassId) (base : Nat) (xa : Nat → Nat) (sc : xS) (h : xH) (r : xR) : Array Value → State → Outcome → State → Prop := fun _ _ o t => o = .returned (r.1.map (xv base xa)) ∧ h.length + r.2.2.1 = r.2.1.length ∧ xW D cl dA base xa r.2.1 t.heap ∧ xEx G sc base xa t t.heap ∧ va_K D cl (xtys dA) t
theorem xPc_blind (as : List Value) (h : xH) : FrameBlind (xPc G Ns D cl dA base xa sc as h) := fun a U g mk q => by
  obtain ⟨q0, q1, q2, q3, q4⟩ := q
  exact ⟨q0, q1, xEx.moved (u := U) (U := U.calling g mk a) (Vm.Alike.refl U.vm) q2, va_K.moved (u := U) (U := U.calling g mk a) (Vm.Alike.refl U.vm) q3, ⟨fun q hq => va_Nw.same rfl rfl (q4.1 q hq), fun q hq => (q4.2 q hq).same rfl⟩⟩
/-- a body is sound at fuel n: any run that the evaluator makes is the machine's -/
def xSnd (G : xG) (Ts : List Cond) (Ns : xNs) (D : va_G) (cl : List vw_C) (dA : FieldType → ClassId) (base : Nat) (xa : Nat → Nat) (sc : xS) (l : Launch) (n : Nat) : Prop :=
  ∀ (d M pc : Nat) (L : xL) (st : List Value) (h : xH) (r : xR), xev G sc n d M pc L st h = some r →
  ∀ (p : Program) (e : Env) (s : State) (m : MethodId) (args : Array Value) (below : List Frame) (meth : Method) (c : Code) (R : Room) (H : Heap) (locs : List Loc) (cells slots : Nat) (Q : State → Prop) (ls : Array Slot),
    xAt G Ts Ns D cl dA base xa M p s m args meth c → s.heap.size + cells = base + h.length → xW D cl dA base xa h H → xEx G sc base xa s H → (∀ q ∈ locs, base ≤ q.base) → lv_has ls (xMet G M).2.2.1 (L.map (xq base xa)) →
    cells + r.2.2.1 ≤ R.cells → slots + r.2.2.2 ≤ R.slots → d ≤ R.frames → 64 * d ≤ R.locals →
    (∀ (pc' : Nat) (ls' : Array Slot) (i : Instr) (H' : Heap) (locs' : List Loc), decode (xMet G M).2.1 pc' = .ok (i, 1) → xret i (xMet G M).2.2.2 r.1 = true → s.heap.size + (cells + r.2.2.1) = base + r.2.1.length → xW D cl dA base xa r.2.1 H' → xEx G sc base xa s H' → (∀ q ∈ locs', base ≤ q.base) → W p l e R s m args below meth c H' locs' (cells + r.2.2.1) (slots + r.2.2.2) Q (F0 m pc' ls' (r.1.map (xv base xa)).toList)) →
    W p l e R s m args below meth c H locs cells slots Q (F0 m pc ls (st.map (xv base xa)))
set_option maxHeartbeats 4000000 in
theorem x_met {n : Nat} (ih : xSnd G Ts Ns D cl dA base xa sc l n) (hbb : xa 0 < base) {d N : Nat} {as : List Value} {h : xH} {r : xR} (hr : xev G sc n d N 0 (lv_args 0 as) [] h = some r) (hl : (lg_sl as).length ≤ (xMet G N).2.2.1) (hy : plainName (xMet G N).1.cls = true) :
    Met l (xMet G N).1 (Cond.code (xMet G N).1 (xMet G N).2.1 (xMet G N).2.2.1 (xMet G N).2.2.2 :: Ts) { frames := d, cells := r.2.2.1, slots := r.2.2.2, locals := 64 * d } (xPc G Ns D cl dA base xa sc as h) (xQc G D cl dA base xa sc h r) r.2.2.1 r.2.2.2 (fun q => base ≤ q) := by
  refine Met.ofW (cc := (xMet G N).2.1) (maxL := (xMet G N).2.2.1) (ret := (xMet G N).2.2.2) hy rfl ?_
  intro p e s m args below meth c s₁ B hml hv
  obtain ⟨rfl, hw, hX, hK, hN⟩ := hv
  have hx := B.exec
  have hb := B.bytes
  have hr1 := B.returns
  have hts := atoms_spec B.pre
  have hown := findClass_of_methodNamed B.named
  have hlocks := B.notSynchronized
  have hname := (name_of_methodNamed B.named B.method).1
  have hle := lv_entry (as.map (xv base xa)) (n := (xMet G N).2.2.1) (by rw [x_sl]; exact hl)
  rw [lg_entry_eq]
  rw [x_args] at hle
  refine ih d N 0 (lv_args 0 as) [] h r hr p e s m _ below meth c _ s.heap [] 0 0 _ _ ⟨hx, hb, hml, hown, fun w hw => hts w (List.mem_cons_of_mem _ hw), hK, fun z => by rw [hname]; exact z, hbb, hN⟩ hw.1 hw hX (fun q hq => by cases hq) hle (by simp [headSpec]) (by simp [headSpec]) (Nat.le_refl _) (Nat.le_refl _) ?_
  intro pc' ls' i H' locs' hd hv hsz hw' hX' hlc
  obtain ⟨v, h', a1, a2⟩ := r
  have hsz2 : h.length + a1 = h'.length := by have := hw.1; simp only [Nat.zero_add] at hsz; omega
  simp only [Nat.zero_add]
  unfold xret at hv
  split at hv
  · rename_i q1 q2
    have q2 : v = none := q2
    subst q2
    refine W.vret hx hb (hr1.trans q1) (fun t ht hW => ⟨rfl, hsz2, by rw [ht]; exact hw', by rw [ht]; exact xEx.moved hW.alike hX', va_K.moved hW.alike hK⟩) hlc hd
  · rename_i ty x q1 q2
    have q2 : v = some (.int x) := q2
    subst q2
    exact W.zret hx hb (hr1.trans q1) (of_decide_eq_true hv) (fun t ht hW => ⟨rfl, hsz2, by rw [ht]; exact hw', by rw [ht]; exact xEx.moved hW.alike hX', va_K.moved hW.alike hK⟩) hlc hd
  · rename_i x q1 q2
    have q2 : v = some (.long x) := q2
    subst q2
    exact W.lret hx hb (hr1.trans q1) (fun t ht hW => ⟨rfl, hsz2, by rw [ht]; exact hw', by rw [ht]; exact xEx.moved hW.alike hX', va_K.moved hW.alike hK⟩) hlc hd
  · rename_i C e q1 q2
    have q2 : v = some (.retAddr e) := q2
    subst q2
    have q9 : ¬ e = 1000 := of_decide_eq_true hv
    show W _ _ _ _ _ _ _ _ _ _ _ _ _ _ _ (F0 m pc' ls' [xv base xa (.retAddr e)])
    rw [xv_ext base xa q9]
    exact W.aret hx hb (hr1.trans q1) (Or.inl ⟨C, rfl⟩) (Or.inr ⟨_, rfl⟩) (fun t ht hW => ⟨by show Outcome.returned _ = Outcome.returned (some (xv base xa (.retAddr e))); rw [xv_ext base xa q9], hsz2, by rw [ht]; exact hw', by rw [ht]; exact xEx.moved hW.alike hX', va_K.moved hW.alike hK⟩) hlc hd
  · cases hv
end XC
