theorem xbl : (xByt xg).length = 25 := rfl
abbrev bOk (e : Nat) : Prop := e % 2 = 0 ∧ ¬ e = 0 ∧ ¬ e = 1000 ∧ e / 2 - 1 < 25
def bLen (e : Nat) : Nat := (xbyt.getD (e / 2 - 1) []).length
def bAt (e j : Nat) : Int := ((xbyt.getD (e / 2 - 1) []).getD j 0).toInt
section VRS
variable {sc : xS} {d M pc : Nat} {L : xL} {st : List Value} {s : St} {Q : xR → Prop} {P : Prop} {R : Rs}
theorem xh98 {e : Nat} {as : List Value} {h : xH} (he : e % 2 = 1 ∧ e / 2 < 25) : xhead (xByt xg).length 0 98 (.retAddr e :: as) h = true := by
  have h1 : (98 == 98 && e % 2 == 1 && decide (e / 2 < 25)) = true := by simp [he.1, he.2]
  rw [xbl]
  exact h1
theorem vX98 {e : Nat} {K : Option Rs} (k : (e % 2 = 1 ∧ e / 2 < 25) → K = some R → vT sc d M pc L st s Q) : (if e % 2 = 1 ∧ e / 2 < 25 then K else none) = some R → vT sc d M pc L st s Q := fun p => by
  by_cases h : e % 2 = 1 ∧ e / 2 < 25
  · rw [if_pos h] at p; exact k h p
  · rw [if_neg h] at p; cases p
theorem vGfv (pc' : Nat) {k0 e : Nat} {K : Option Rs} (hi : xIns xg M pc = some (.getfield k0)) (hf : xExf xg M k0 = some 0) (hp' : pc + 3 = pc') (k : K = some R → vT sc d M pc' L (.retAddr (2 * (e / 2) + 2) :: st) s Q) : (if e % 2 = 1 ∧ e / 2 < 25 then K else none) = some R → vT sc d M pc L (.retAddr e :: st) s Q := fun p => by
  by_cases h : e % 2 = 1 ∧ e / 2 < 25
  · rw [if_pos h] at p; exact wGfv pc' hi (by rw [xbl]; exact h) hf (by omega) hp' (k p)
  · rw [if_neg h] at p; cases p
theorem vGfc (pc' : Nat) {k0 e : Nat} {K : Option Rs} (hi : xIns xg M pc = some (.getfield k0)) (hf : xExf xg M k0 = some 1) (hp' : pc + 3 = pc') (k : K = some R → vT sc d M pc' L (vi 0 :: st) s Q) : (if e % 2 = 1 ∧ e / 2 < 25 then K else none) = some R → vT sc d M pc L (.retAddr e :: st) s Q := fun p => by
  by_cases h : e % 2 = 1 ∧ e / 2 < 25
  · rw [if_pos h] at p; exact wGfc pc' hi (by rw [xbl]; exact h) hf hp' (k p)
  · rw [if_neg h] at p; cases p
theorem vGs (pc' : Nat) {k0 : Nat} {v : Value} (hi : xIns xg M pc = some (.getstatic k0)) (hf : xSta xg M k0 = some v) (hp' : pc + 3 = pc') (k : P → vT sc d M pc' L (v :: st) s Q) : P → vT sc d M pc L st s Q := fun p => wGs pc' hi hf hp' (k p)
theorem vBln (pc' : Nat) {e : Nat} {K : Option Rs} (hi : xIns xg M pc = some .arraylength) (hp' : pc + 1 = pc') (k : K = some R → vT sc d M pc' L (vi ((bLen e : Nat) : Int) :: st) s Q) : (if bOk e then K else none) = some R → vT sc d M pc L (.retAddr e :: st) s Q := fun p => by
  by_cases h : bOk e
  · rw [if_pos h] at p
    exact wBln pc' hi ⟨⟨h.1, h.2.2.1⟩, by rw [xbl]; exact h.2.2.2⟩ h.2.1 rfl (Int32.ofInt_eq_ofNat (n := bLen e)).symm hp' (k p)
  · rw [if_neg h] at p; cases p
theorem vBalS (pc' : Nat) {e : Nat} {j j' : Int} {K : Option Rs} (hj : w32 j = j') (hi : xIns xg M pc = some .baload) (hp' : pc + 1 = pc') (k : K = some R → vT sc d M pc' L (vi (bAt e j'.toNat) :: st) s Q) : (if bOk e ∧ 0 ≤ j' ∧ j' < ((bLen e : Nat) : Int) then K else none) = some R → vT sc d M pc L (vi j :: .retAddr e :: st) s Q := fun p => by
  subst hj
  by_cases h : bOk e ∧ 0 ≤ w32 j ∧ w32 j < ((bLen e : Nat) : Int)
  · rw [if_pos h] at p
    refine wBal pc' hi ?_ (l := xbyt.getD (e / 2 - 1) []) rfl (i32_ix h.2) hp' ?_
    · rw [xbl]
      have := h.1
      omega
    · have k := k p
      unfold bAt at k
      rw [vT, vi, Int32.ofInt_toInt] at k
      rw [i32_nat]; exact k
  · rw [if_neg h] at p; cases p
end VRS
section VRT
variable {sc : xS} {d M pc : Nat} {L : xL} {st : List Value} {s : St} {Q : xR → Prop} {P : Prop}
theorem vZt0 (t : Nat) {q : ClassFile.Cond} {off : Int} {x : Int} (hi : xIns xg M pc = some (.ifCond q off)) (hj : xjmp pc off = some t) (hc : xcond q (Int32.ofInt x) 0 = true) (k : P → vT sc d M t L st s Q) : P → vT sc d M pc L (vi x :: st) s Q := fun p => wZT t hi hj hc (k p)
theorem vZf0 (t pc' : Nat) {q : ClassFile.Cond} {off : Int} {x : Int} (hi : xIns xg M pc = some (.ifCond q off)) (hj : xjmp pc off = some t) (hc : xcond q (Int32.ofInt x) 0 = false) (hp' : pc + 3 = pc') (k : P → vT sc d M pc' L st s Q) : P → vT sc d M pc L (vi x :: st) s Q := fun p => wZF t pc' hi hj hc hp' (k p)
theorem vCt0 (t : Nat) {q : ClassFile.Cond} {off : Int} {x y : Int} (hi : xIns xg M pc = some (.if_icmp q off)) (hj : xjmp pc off = some t) (hc : xcond q (Int32.ofInt x) (Int32.ofInt y) = true) (k : P → vT sc d M t L st s Q) : P → vT sc d M pc L (vi y :: vi x :: st) s Q := fun p => wCT t hi hj hc (k p)
theorem vCf0 (t pc' : Nat) {q : ClassFile.Cond} {off : Int} {x y : Int} (hi : xIns xg M pc = some (.if_icmp q off)) (hj : xjmp pc off = some t) (hc : xcond q (Int32.ofInt x) (Int32.ofInt y) = false) (hp' : pc + 3 = pc') (k : P → vT sc d M pc' L st s Q) : P → vT sc d M pc L (vi y :: vi x :: st) s Q := fun p => wCF t pc' hi hj hc hp' (k p)
end VRT
section VRW
variable {sc : xS} {d M pc : Nat} {L : xL} {st : List Value} {s : St} {Q : xR → Prop} {P : Prop}
theorem vSi0 (pc' : Nat) (L' : xL) {n nL : Nat} {rt : Option FieldType} {x : Int} (hi : xIns xg M pc = some (.istore n)) (hm : (xMet xg M).2.2 = (nL, rt)) (hn : n < nL) (hl : xst1 L n (vi x) = L') (hp' : pc + 2 = pc') (k : P → vT sc d M pc' L' st s Q) : P → vT sc d M pc L (vi x :: st) s Q := fun p => wSi pc' L' hi hm hn hl hp' (k p)
theorem vSin0 (pc' : Nat) (L' : xL) {n : Fin 4} {nL : Nat} {rt : Option FieldType} {x : Int} (hi : xIns xg M pc = some (.istore_n n)) (hm : (xMet xg M).2.2 = (nL, rt)) (hn : n.val < nL) (hl : xst1 L n.val (vi x) = L') (hp' : pc + 1 = pc') (k : P → vT sc d M pc' L' st s Q) : P → vT sc d M pc L (vi x :: st) s Q := fun p => wSin pc' L' hi hm hn hl hp' (k p)
theorem vSl0 (pc' : Nat) (L' : xL) {n nL : Nat} {rt : Option FieldType} {x : Int} (hi : xIns xg M pc = some (.lstore n)) (hm : (xMet xg M).2.2 = (nL, rt)) (hn : n + 1 < nL) (hl : xst2 L n (vl x) = L') (hp' : pc + 2 = pc') (k : P → vT sc d M pc' L' st s Q) : P → vT sc d M pc L (vl x :: st) s Q := fun p => wSl pc' L' hi hm hn hl hp' (k p)
theorem vSln0w (pc' : Nat) (L' : xL) {n : Fin 4} {nL : Nat} {rt : Option FieldType} {x : Int} (hi : xIns xg M pc = some (.lstore_n n)) (hm : (xMet xg M).2.2 = (nL, rt)) (hn : n.val + 1 < nL) (hl : xst2 L n.val (vl x) = L') (hp' : pc + 1 = pc') (k : P → vT sc d M pc' L' st s Q) : P → vT sc d M pc L (vl x :: st) s Q := fun p => wSln pc' L' hi hm hn hl hp' (k p)
end VRW
theorem vPutZ0 {sc : xS} {d M pc : Nat} {L : xL} {st : List Value} {s : St} {Q : xR → Prop} {R : Rs} (pc' : Nat) {k0 a ci j : Nat} {x : Int} {fs : List xFk} {K : St → Option Rs} (h : x = 0 ∨ x = 1) (hi : xIns xg M pc = some (.putfield k0)) (hf : xPut xg M k0 = some (ci, j, .boolean)) (hs : sh[a]? = some (.inr (ci, fs))) (hk : fs[j]? = some (.inl 0)) (hp' : pc + 3 = pc') (k : ∀ s1, K s1 = some R → vT sc d M pc' L st s1 Q) : bd (up s a j x) K = some R → vT sc d M pc L (vi x :: .ref a :: st) s Q := fun p => vPutZ pc' hi hf hs hk hp' k (by rw [if_pos h]; exact p)
