/-- where the texts and statics lie, at the law's entry -/
theorem x_entry {s : State} {b L : Nat} {xs : Nat → Int32} (hts : ∀ w ∈ lw_tbl, w.before #[Value.ref b] s = true) (hF : ∀ c ∈ xF, c.before #[Value.ref b] s = true) (hX : va_X b L xs s s.heap) : ∃ xa : Nat → Nat, xa 0 = b ∧ xEx xg (L, xs) s.heap.size xa s s.heap ∧ ∀ q ∈ xrs, vk_R q.1 q.2.1 q.2.2.1 (xa (2 * q.2.2.2 + 1)) s := by
  have hall : ∀ c ∈ lw_tbl ++ xF, c.before #[Value.ref b] s = true := fun c hc => (List.mem_append.mp hc).elim (hts c) (hF c)
  have hA : ∀ a : Nat, a < s.heap.size → ¬ s.heap.size ≤ a := fun a ha => by omega
  have hs := xF_sl
  simp only [Bool.and_eq_true, decide_eq_true_eq] at hs
  obtain ⟨⟨⟨s1, s2⟩, s3⟩, s4⟩ := hs
  have hr := xF_rs
  simp only [Bool.and_eq_true, decide_eq_true_eq, List.all_eq_true] at hr
  obtain ⟨⟨r1, r2⟩, r3⟩ := hr
  have hk : ∀ i : Nat, ∃ q : Nat × Nat, i < xrs.length → va_O "java/lang/String" q.1 (fun q => s.heap.size ≤ q) s s.heap ∧ va_OF "java/lang/String" "coder" "B" (.int 0) q.1 (fun q => s.heap.size ≤ q) s s.heap ∧ va_OF "java/lang/String" "value" "[B" (.ref q.2) q.1 (fun q => s.heap.size ≤ q) s s.heap ∧ va_T .byte q.2 (xln.getD i 0) (fun j => .int ((xbyt.getD i []).getD j 0)) (fun q => s.heap.size ≤ q) s s.heap ∧ (xtm i).eval #[Value.ref b] s none [] s = some (.ref q.1) := by
    intro i
    by_cases hi : i < xrs.length
    · obtain ⟨a, v, z⟩ := x_text hF i hi
      exact ⟨(a, v), fun _ => z⟩
    · exact ⟨(0, 0), fun z => absurd z hi⟩
  obtain ⟨tk, htk⟩ : ∃ tk : Nat → Nat × Nat, ∀ i, i < xrs.length → va_O "java/lang/String" (tk i).1 (fun q => s.heap.size ≤ q) s s.heap ∧ va_OF "java/lang/String" "coder" "B" (.int 0) (tk i).1 (fun q => s.heap.size ≤ q) s s.heap ∧ va_OF "java/lang/String" "value" "[B" (.ref (tk i).2) (tk i).1 (fun q => s.heap.size ≤ q) s s.heap ∧ va_T .byte (tk i).2 (xln.getD i 0) (fun j => .int ((xbyt.getD i []).getD j 0)) (fun q => s.heap.size ≤ q) s s.heap ∧ (xtm i).eval #[Value.ref b] s none [] s = some (.ref (tk i).1) := ⟨fun i => Classical.choose (hk i), fun i => Classical.choose_spec (hk i)⟩
  obtain ⟨v, hv1, hv2⟩ := Cond.isRef_spec (hF _ (of_decide_eq_true xF_pr))
  obtain ⟨f, hf⟩ : ∃ f : Nat, v = va_rf (if f = 0 then none else some (f - 1)) := by
    cases v with
    | null => exact ⟨0, rfl⟩
    | ref a => exact ⟨a + 1, rfl⟩
    | _ => cases hv2
  have e1 : ∀ i, i < xrs.length → xxa b (fun i => (tk i).1) (fun i => (tk i).2) f (2 * i + 1) = (tk i).1 := fun i hi => by
    unfold xxa
    rw [if_neg (by omega), if_neg (by omega), if_pos (by omega)]
    show (tk _).1 = _
    rw [show (2 * i + 1) / 2 = i by omega]
  have e2 : ∀ i, i < xrs.length → xxa b (fun i => (tk i).1) (fun i => (tk i).2) f (2 * i + 2) = (tk i).2 := fun i hi => by
    unfold xxa
    rw [if_neg (by omega), if_neg (by omega), if_neg (by omega)]
    show (tk _).2 = _
    rw [show (2 * i + 2) / 2 - 1 = i by omega]
  have hb : xByt xg = xbyt := rfl
  refine ⟨xxa b (fun i => (tk i).1) (fun i => (tk i).2) f, rfl, ⟨hX, fun i hi => ?_, ?_, ?_⟩, fun q hq => ?_⟩
  · rw [hb] at hi ⊢
    have hi' : i < xrs.length := by omega
    obtain ⟨z1, z2, z3, z4, -⟩ := htk i hi'
    rw [e1 i hi', e2 i hi']
    refine ⟨z1, z2, z3, ?_⟩
    have : xln.getD i 0 = (xbyt.getD i []).length := by
      simp only [xln, List.getD_eq_getElem?_getD, List.getElem?_map]
      cases xbyt[i]? <;> rfl
    rw [← this]; exact z4
  · exact va_Zof (hall _ s1) (hall _ s2) (va_eqi (hF _ (of_decide_eq_true xF_cs))) hA
  · have : xv s.heap.size (xxa b (fun i => (tk i).1) (fun i => (tk i).2) f) (.retAddr 1000) = v := by
      rw [hf]; rfl
    rw [this]
    exact va_Zof (hall _ s3) (hall _ s4) hv1 hA
  · obtain ⟨⟨y1, y2⟩, y3⟩ := r1 q hq
    obtain ⟨-, -, -, -, z5⟩ := htk _ y2
    rw [e1 _ y2]
    refine vk_R.of (hall _ y3) ?_
    have : xtm q.2.2.2 = Term.string q.1 q.2.1 := by unfold xtm; rw [y1]
    rw [← this]; exact z5
