def xcode (N : Nat) : Bool := match xent N, xpl N with
  | some e, some q => plainName e.1.1.cls && xis q.1 (.code e.1.1 e.1.2.1 e.1.2.2.1 e.1.2.2.2) && xis q.2.1 (.initialized e.1.1.cls) && !decide (e.1.1.cls = "java/lang/invoke/MethodHandle") && !decide (e.1.1.cls = "java/lang/invoke/VarHandle") && decide (e.1.2.2.1 ≤ 40)
  | _, _ => false
def xcodes (a n : Nat) : Bool := (List.range n).all (fun i => xcode (a + i))
theorem xcodes_0 : xcodes 0 16 = true := by decide +kernel
theorem xcodes_1 : xcodes 16 16 = true := by decide +kernel
theorem xcodes_2 : xcodes 32 16 = true := by decide +kernel
theorem xcodes_3 : xcodes 48 16 = true := by decide +kernel
theorem xcodes_4 : xcodes 64 16 = true := by decide +kernel
theorem xcodes_5 : xcodes 80 16 = true := by decide +kernel
theorem xcodes_6 : xcodes 96 16 = true := by decide +kernel
theorem xcodes_7 : xcodes 112 16 = true := by decide +kernel
theorem xcodes_8 : xcodes 128 16 = true := by decide +kernel
theorem xcodes_9 : xcodes 144 16 = true := by decide +kernel
theorem xcodes_10 : xcodes 160 16 = true := by decide +kernel
theorem xcodes_11 : xcodes 176 16 = true := by decide +kernel
theorem xcodes_12 : xcodes 192 5 = true := by decide +kernel
theorem xcode_all {N : Nat} (h : N < 197) : xcode N = true := by
  have key : ∀ a n, xcodes a n = true → a ≤ N → N < a + n → xcode N = true := fun a n h1 h2 h3 => by
    have := List.all_eq_true.mp h1 (N - a) (List.mem_range.mpr (by omega))
    rw [show a + (N - a) = N by omega] at this
    exact this
  rcases Nat.lt_or_ge N 16 with h | h
  · exact key 0 16 xcodes_0 (by omega) (by omega)
  rcases Nat.lt_or_ge N 32 with h | h
  · exact key 16 16 xcodes_1 (by omega) (by omega)
  rcases Nat.lt_or_ge N 48 with h | h
  · exact key 32 16 xcodes_2 (by omega) (by omega)
  rcases Nat.lt_or_ge N 64 with h | h
  · exact key 48 16 xcodes_3 (by omega) (by omega)
  rcases Nat.lt_or_ge N 80 with h | h
  · exact key 64 16 xcodes_4 (by omega) (by omega)
  rcases Nat.lt_or_ge N 96 with h | h
  · exact key 80 16 xcodes_5 (by omega) (by omega)
  rcases Nat.lt_or_ge N 112 with h | h
  · exact key 96 16 xcodes_6 (by omega) (by omega)
  rcases Nat.lt_or_ge N 128 with h | h
  · exact key 112 16 xcodes_7 (by omega) (by omega)
  rcases Nat.lt_or_ge N 144 with h | h
  · exact key 128 16 xcodes_8 (by omega) (by omega)
  rcases Nat.lt_or_ge N 160 with h | h
  · exact key 144 16 xcodes_9 (by omega) (by omega)
  rcases Nat.lt_or_ge N 176 with h | h
  · exact key 160 16 xcodes_10 (by omega) (by omega)
  rcases Nat.lt_or_ge N 192 with h | h
  · exact key 176 16 xcodes_11 (by omega) (by omega)
  rcases Nat.lt_or_ge N 197 with h | h
  · exact key 192 5 xcodes_12 (by omega) (by omega)
  · omega
def xckM (own : String) (q : Nat × Nat × Nat × Nat × Nat × Nat) : Bool := match q with
  | (k, 6, _, _, _, pl) => xis pl (.methodLink own k Lib.objectInit)
  | (k, 7, _, _, _, pl) => xis pl (.methodLink own k arraycopyName)
  | (k, 8, _, _, _, pl) => xis pl (.methodLink own k Lib.Math.max.name)
  | (k, 0, N, na, ci, pl) => match xent N, xpl N, vwCl[ci]? with
    | some e, some p, some (C, _, _) => decide (N < 197) && decide (0 < na) && decide ((parseMethodDescriptor e.1.1.desc).map (fun d => d.parameters.length) = some (na - 1)) && decide (C = e.1.1.cls) && xis pl (.methodLink own k e.1.1) && xis p.2.2.1 (.instanceMethod e.1.1) && xis p.2.2.2 (.selects e.1.1.cls e.1.1 e.1.1)
    | _, _, _ => false
  | (k, 1, N, na, _, pl) => match xent N, xpl N with
    | some e, some p => decide (N < 197) && decide ((parseMethodDescriptor e.1.1.desc).map (fun d => d.parameters.length) = some na) && xis pl (.methodLink own k e.1.1) && xis p.2.2.1 (.static e.1.1)
    | _, _ => false
  | (k, 4, N, na, _, pl) => match xent N, xpl N with
    | some e, some p => decide (N < 197) && decide (0 < na) && decide ((parseMethodDescriptor e.1.1.desc).map (fun d => d.parameters.length) = some (na - 1)) && xis pl (.methodLink own k e.1.1) && decide (e.1.1.name = "<init>") && xis p.2.2.1 (.instanceMethod e.1.1) && decide (e.1.2.2.2 = none)
    | _, _ => false
  | (k, 5, N, na, _, pl) => match xent N, xpl N with
    | some e, some p => decide (N < 197) && decide (0 < na) && decide ((parseMethodDescriptor e.1.1.desc).map (fun d => d.parameters.length) = some (na - 1)) && xis pl (.methodLinkNest own k e.1.1 "LateRows") && decide (e.1.1.name = "<init>") && xis p.2.2.1 (.instanceMethod e.1.1) && decide (e.1.2.2.2 = none)
    | _, _ => false
  | _ => false
def xckMl (l : List (Nat × Nat × Nat × Nat × Nat × Nat)) (own : String) : Bool := l.all (xckM own)
theorem xckM_all : (List.zip xlM xcn).all (fun q => xckMl q.1 q.2) = true := by decide +kernel
theorem xcode_in {N : Nat} {e : xEn} (he : xent N = some e) (h : N < 197) : plainName (xMet xg N).1.cls = true ∧ Cond.code (xMet xg N).1 (xMet xg N).2.1 (xMet xg N).2.2.1 (xMet xg N).2.2.2 ∈ xTs ∧ Cond.initialized (xMet xg N).1.cls ∈ xTs ∧ ((xMet xg N).1.cls ≠ "java/lang/invoke/MethodHandle" ∧ (xMet xg N).1.cls ≠ "java/lang/invoke/VarHandle") ∧ (xMet xg N).2.2.1 ≤ 40 := by
  have h1 := xcode_all h
  unfold xcode at h1
  rw [he] at h1
  rw [xent_met he]
  split at h1
  · rename_i e' q z1 z2
    cases z1
    simp only [Bool.and_eq_true, decide_eq_true_eq, Bool.not_eq_true', decide_eq_false_iff_not] at h1
    obtain ⟨⟨⟨⟨⟨a1, a2⟩, a3⟩, a4⟩, a5⟩, a6⟩ := h1
    exact ⟨a1, xis_in a2, xis_in a3, ⟨a4, a5⟩, a6⟩
  · cases h1
set_option maxHeartbeats 4000000 in
theorem xg_okm : xOKm xg vwCl xTs := by
  intro M k kind N na ci h
  have h : (match xlk xlM M k with | some (kind, N, na, ci, _) => some (kind, N, na, ci) | none => none) = some (kind, N, na, ci) := h
  split at h
  · rename_i kind' N' na' ci' pl hq
    cases h
    obtain ⟨e0, r, he0, hr, hm⟩ := xlk_in hq
    have h1 := List.all_eq_true.mp (xzip (f := xckMl) xckM_all hr (xent_cn he0)) _ hm
    unfold xckM at h1
    split at h1
    · rename_i z; cases z
      exact ⟨xis_in h1, xis_in (i := 107) (by decide +kernel), xis_in (i := 108) (by decide +kernel)⟩
    · rename_i z; cases z
      exact ⟨xis_in h1, xis_in (i := 591) (by decide +kernel), xis_in (i := 590) (by decide +kernel), xis_in (i := 100) (by decide +kernel)⟩
    · rename_i z; cases z
      exact ⟨xis_in h1, xis_in (i := 416) (by decide +kernel), xis_in (i := 95) (by decide +kernel), xis_in (i := 417) (by decide +kernel)⟩
    · rename_i z; cases z
      split at h1
      · rename_i e p C T NN he hp hc
        simp only [Bool.and_eq_true, decide_eq_true_eq] at h1
        obtain ⟨⟨⟨⟨⟨⟨a1, a2⟩, a3⟩, a4⟩, a5⟩, a6⟩, a7⟩ := h1
        refine ⟨xcode_in he a1, ?_⟩
        rw [xent_met he]
        exact ⟨a3, a2, ⟨T, NN, by rw [← a4]; exact hc⟩, xis_in a5, xis_in a6, xis_in a7⟩
      · cases h1
    · rename_i z; cases z
      split at h1
      · rename_i e p he hp
        simp only [Bool.and_eq_true, decide_eq_true_eq] at h1
        obtain ⟨⟨⟨a1, a3⟩, a5⟩, a6⟩ := h1
        refine ⟨xcode_in he a1, ?_⟩
        rw [xent_met he]
        exact ⟨a3, xis_in a5, xis_in a6⟩
      · cases h1
    · rename_i z; cases z
      split at h1
      · rename_i e p he hp
        simp only [Bool.and_eq_true, decide_eq_true_eq] at h1
        obtain ⟨⟨⟨⟨⟨⟨a1, a2⟩, a3⟩, a5⟩, a6⟩, a7⟩, a8⟩ := h1
        refine ⟨xcode_in he a1, ?_⟩
        rw [xent_met he]
        exact ⟨a3, a2, xis_in a5, a6, xis_in a7, a8⟩
      · cases h1
    · rename_i z; cases z
      split at h1
      · rename_i e p he hp
        simp only [Bool.and_eq_true, decide_eq_true_eq] at h1
        obtain ⟨⟨⟨⟨⟨⟨a1, a2⟩, a3⟩, a5⟩, a6⟩, a7⟩, a8⟩ := h1
        refine ⟨xcode_in he a1, ?_⟩
        rw [xent_met he]
        exact ⟨a3, a2, ⟨"LateRows", xis_in a5⟩, a6, xis_in a7, a8⟩
      · cases h1
    · cases h1
  · cases h
