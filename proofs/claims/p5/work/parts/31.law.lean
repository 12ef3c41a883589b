def xF : List Cond := flatC (Jvm.Cond.and given_1 narrow_1)
def xtm (i : Nat) : Term := Term.string (xrs.getD i ("", 0, "", 0)).1 (xrs.getD i ("", 0, "", 0)).2.1
def xln : List Nat := xbyt.map List.length
theorem xF_ex : (List.range xrs.length).all (fun i => decide (Cond.exactly (xtm i) "java/lang/String" ∈ xF)) = true := by decide +kernel
theorem xF_co : (List.range xrs.length).all (fun i => decide (Cond.eq (.field (xtm i) "java/lang/String" "coder" "B") (.int 0) ∈ xF)) = true := by decide +kernel
theorem xF_ar : (List.range xrs.length).all (fun i => decide (Cond.arrayOf (.field (xtm i) "java/lang/String" "value" "[B") .byte ∈ xF)) = true := by decide +kernel
theorem xF_le : (List.range xrs.length).all (fun i => decide (Cond.eq (.length (.field (xtm i) "java/lang/String" "value" "[B")) (.int (Int32.ofNat (xln.getD i 0))) ∈ xF)) = true := by decide +kernel
theorem xF_el : (List.range xrs.length).all (fun i => (List.range (xln.getD i 0)).all (fun j => decide (Cond.eq (.elem (.field (xtm i) "java/lang/String" "value" "[B") (.int (Int32.ofNat j))) (.int ((xbyt.getD i []).getD j 0)) ∈ xF))) = true := by decide +kernel
theorem xF_sm : (List.range xrs.length).all (fun i => decide (xln.getD i 0 < 2 ^ 31)) = true := by decide +kernel
theorem xF_st : (decide (Cond.laysStatic "java/lang/String" "COMPACT_STRINGS" "Z" ∈ xF ∨ Cond.laysStatic "java/lang/String" "COMPACT_STRINGS" "Z" ∈ lw_tbl)) = true := by decide +kernel
theorem xF_cs : (decide (Cond.eq (.static "java/lang/String" "COMPACT_STRINGS" "Z") (.int 1) ∈ xF)) = true := by decide +kernel
theorem xF_pr : (decide (Cond.isRef (.static "jdk/internal/util/Preconditions" "SIOOBE_FORMATTER" "Ljava/util/function/BiFunction;") ∈ xF)) = true := by decide +kernel
/-- one text, out of the words of the start -/
theorem x_text {s : State} {args : Array Value} (hF : ∀ c ∈ xF, c.before args s = true) (i : Nat) (hi : i < xrs.length) : ∃ a v : Nat, va_O "java/lang/String" a (fun q => s.heap.size ≤ q) s s.heap ∧ va_OF "java/lang/String" "coder" "B" (.int 0) a (fun q => s.heap.size ≤ q) s s.heap ∧ va_OF "java/lang/String" "value" "[B" (.ref v) a (fun q => s.heap.size ≤ q) s s.heap ∧ va_T .byte v (xln.getD i 0) (fun j => .int ((xbyt.getD i []).getD j 0)) (fun q => s.heap.size ≤ q) s s.heap ∧ (xtm i).eval args s none [] s = some (.ref a) := by
  have hr := List.mem_range.mpr hi
  have g1 := of_decide_eq_true (List.all_eq_true.mp xF_ex i hr)
  have g2 := of_decide_eq_true (List.all_eq_true.mp xF_co i hr)
  have g3 := of_decide_eq_true (List.all_eq_true.mp xF_ar i hr)
  have g4 := of_decide_eq_true (List.all_eq_true.mp xF_le i hr)
  have g5 := List.all_eq_true.mp (List.all_eq_true.mp xF_el i hr)
  have g6 := of_decide_eq_true (List.all_eq_true.mp xF_sm i hr)
  obtain ⟨adK, adV, hS, hE⟩ := vk_Sof (args := args) (s := s) (N := 1) (tm := fun _ => xtm i) (len := [xln.getD i 0]) (byt := [xbyt.getD i []]) (A := fun q => s.heap.size ≤ q) (fun k hk => by cases Nat.lt_one_iff.mp hk; exact g6) (fun k hk => hF _ g1) (fun k hk => hF _ g2) (fun k hk => hF _ g3) (fun k hk => by cases Nat.lt_one_iff.mp hk; exact hF _ g4) (fun k hk j hj => by cases Nat.lt_one_iff.mp hk; exact hF _ (of_decide_eq_true (g5 j (List.mem_range.mpr hj)))) (fun a b ha hb hab => absurd ((Nat.lt_one_iff.mp ha).trans (Nat.lt_one_iff.mp hb).symm) hab) (fun a ha => by show ¬ s.heap.size ≤ a; omega)
  obtain ⟨z1, z2, z3, z4⟩ := hS.1 0 (by decide)
  exact ⟨adK 0, adV 0, z1, z2, z3, z4, hE 0 (by decide)⟩
def xxa (b : Nat) (tk tv : Nat → Nat) (f : Nat) (k : Nat) : Nat := if k = 0 then b else if k = 1000 then f else if k % 2 = 1 then tk (k / 2) else tv (k / 2 - 1)
theorem xF_sl : (decide (Cond.laysStatic "java/lang/String" "COMPACT_STRINGS" "Z" ∈ lw_tbl ++ xF) && decide (Cond.initialized "java/lang/String" ∈ lw_tbl ++ xF) && decide (Cond.laysStatic "jdk/internal/util/Preconditions" "SIOOBE_FORMATTER" "Ljava/util/function/BiFunction;" ∈ lw_tbl ++ xF) && decide (Cond.initialized "jdk/internal/util/Preconditions" ∈ lw_tbl ++ xF)) = true := by decide +kernel
theorem xF_rs : (xrs.all (fun q => decide (xrs.getD q.2.2.2 ("", 0, "", 0) = q) && decide (q.2.2.2 < xrs.length) && decide (Cond.stringRef q.1 q.2.1 q.2.2.1 ∈ lw_tbl ++ xF)) && decide (xrs.length = xbyt.length) && decide (2 * xbyt.length + 2 < 1000)) = true := by decide +kernel
