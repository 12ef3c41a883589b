section
section XRU
variable {G : xG} {sc : xS} {d M pc : Nat} {L : xL} {st : List Value} {h : xH} {Q : xR → Prop}
/-- rules for a walk: the next place stands ahead -/
theorem wA (pc' : Nat) {i : Instr} (hi : xIns G M pc = some i) (hs : xsort i = 1) {st' : List Value} (h1 : xs1 i st = some st') (hp : pc + 1 = pc') (k : xT G sc d M pc' L st' h Q) : xT G sc d M pc L st h Q := by subst hp; exact tS1 hi hs h1 k
theorem wD (pc' : Nat) {i : Instr} (hi : xIns G M pc = some i) (hs : xsort i = 2) {st' : List Value} (h1 : xs1d i st = some st') (hp : pc + 1 = pc') (k : xT G sc d M pc' L st' h Q) : xT G sc d M pc L st h Q := by subst hp; exact tS1d hi hs h1 k
theorem wK (pc' : Nat) {n : Int} (v : Int32) (hi : xIns G M pc = some (.iconst n)) (hv : Int32.ofInt n = v) (hp : pc + 1 = pc') (k : xT G sc d M pc' L (.int v :: st) h Q) : xT G sc d M pc L st h Q := by subst hv; exact tS2 hi rfl rfl hp k
theorem wKb (pc' : Nat) {n : Int} (v : Int32) (hi : xIns G M pc = some (.bipush n)) (hv : (Int8.ofInt n).toInt32 = v) (hp : pc + 2 = pc') (k : xT G sc d M pc' L (.int v :: st) h Q) : xT G sc d M pc L st h Q := by subst hv; exact tS2 hi rfl rfl hp k
theorem wKs (pc' : Nat) {n : Int} (v : Int32) (hi : xIns G M pc = some (.sipush n)) (hv : (Int16.ofInt n).toInt32 = v) (hp : pc + 3 = pc') (k : xT G sc d M pc' L (.int v :: st) h Q) : xT G sc d M pc L st h Q := by subst hv; exact tS2 hi rfl rfl hp k
theorem wKl (pc' : Nat) {n : Fin 2} (v : Int64) (hi : xIns G M pc = some (.lconst n)) (hv : Int64.ofNat (n : Nat) = v) (hp : pc + 1 = pc') (k : xT G sc d M pc' L (.long v :: st) h Q) : xT G sc d M pc L st h Q := by subst hv; exact tS2 hi rfl rfl hp k
theorem wKc (pc' : Nat) {n : Nat} (v : Int32) (hi : xIns G M pc = some (.ldc n)) (hv : xCon G M n = some (.int v)) (hp : pc + 2 = pc') (k : xT G sc d M pc' L (.int v :: st) h Q) : xT G sc d M pc L st h Q := tS2 hi rfl (by simp only [xs2, hv]) hp k
theorem wKd (pc' : Nat) {n : Nat} (v : Int64) (hi : xIns G M pc = some (.ldc2_w n)) (hv : xCon G M n = some (.long v)) (hp : pc + 3 = pc') (k : xT G sc d M pc' L (.long v :: st) h Q) : xT G sc d M pc L st h Q := tS2 hi rfl (by simp only [xs2, hv]) hp k
theorem wLi (pc' : Nat) {n : Nat} {x : Int32} (hi : xIns G M pc = some (.iload n)) (hv : L.lookup n = some (.int x)) (hp : pc + 2 = pc') (k : xT G sc d M pc' L (.int x :: st) h Q) : xT G sc d M pc L st h Q := tS2 hi rfl (by simp only [xs2, hv]) hp k
theorem wLin (pc' : Nat) {n : Fin 4} {x : Int32} (hi : xIns G M pc = some (.iload_n n)) (hv : L.lookup n.val = some (.int x)) (hp : pc + 1 = pc') (k : xT G sc d M pc' L (.int x :: st) h Q) : xT G sc d M pc L st h Q := tS2 hi rfl (by simp only [xs2, hv]) hp k
theorem wLl (pc' : Nat) {n : Nat} {x : Int64} (hi : xIns G M pc = some (.lload n)) (hv : L.lookup n = some (.long x)) (hp : pc + 2 = pc') (k : xT G sc d M pc' L (.long x :: st) h Q) : xT G sc d M pc L st h Q := tS2 hi rfl (by simp only [xs2, hv]) hp k
theorem wLln (pc' : Nat) {n : Fin 4} {x : Int64} (hi : xIns G M pc = some (.lload_n n)) (hv : L.lookup n.val = some (.long x)) (hp : pc + 1 = pc') (k : xT G sc d M pc' L (.long x :: st) h Q) : xT G sc d M pc L st h Q := tS2 hi rfl (by simp only [xs2, hv]) hp k
theorem wLa (pc' : Nat) {n : Nat} {x : Nat} (hi : xIns G M pc = some (.aload n)) (hv : L.lookup n = some (.ref x)) (hp : pc + 2 = pc') (k : xT G sc d M pc' L (.ref x :: st) h Q) : xT G sc d M pc L st h Q := tS2 hi rfl (by simp only [xs2, hv]) hp k
theorem wLan (pc' : Nat) {n : Fin 4} {x : Nat} (hi : xIns G M pc = some (.aload_n n)) (hv : L.lookup n.val = some (.ref x)) (hp : pc + 1 = pc') (k : xT G sc d M pc' L (.ref x :: st) h Q) : xT G sc d M pc L st h Q := tS2 hi rfl (by simp only [xs2, hv]) hp k
theorem wLsn (pc' : Nat) {n : Fin 4} {x : Nat} (hi : xIns G M pc = some (.aload_n n)) (hv : L.lookup n.val = some (.retAddr x)) (hx : ¬ x = 1000) (hp : pc + 1 = pc') (k : xT G sc d M pc' L (.retAddr x :: st) h Q) : xT G sc d M pc L st h Q := tS2 hi rfl (by simp only [xs2, hv, hx, if_false]) hp k
theorem wLs (pc' : Nat) {n : Nat} {x : Nat} (hi : xIns G M pc = some (.aload n)) (hv : L.lookup n = some (.retAddr x)) (hx : ¬ x = 1000) (hp : pc + 2 = pc') (k : xT G sc d M pc' L (.retAddr x :: st) h Q) : xT G sc d M pc L st h Q := tS2 hi rfl (by simp only [xs2, hv, hx, if_false]) hp k
theorem wSi (pc' : Nat) (L' : xL) {n nL : Nat} {rt : Option FieldType} {x : Int32} (hi : xIns G M pc = some (.istore n)) (hm : (xMet G M).2.2 = (nL, rt)) (hn : n < nL) (hl : xst1 L n (.int x) = L') (hp : pc + 2 = pc') (k : xT G sc d M pc' L' st h Q) : xT G sc d M pc L (.int x :: st) h Q := by
  subst hl; exact tS2 hi rfl (by simp only [xs2, hm, hn, if_true]) hp k
theorem wSin (pc' : Nat) (L' : xL) {n : Fin 4} {nL : Nat} {rt : Option FieldType} {x : Int32} (hi : xIns G M pc = some (.istore_n n)) (hm : (xMet G M).2.2 = (nL, rt)) (hn : n.val < nL) (hl : xst1 L n.val (.int x) = L') (hp : pc + 1 = pc') (k : xT G sc d M pc' L' st h Q) : xT G sc d M pc L (.int x :: st) h Q := by
  subst hl; exact tS2 hi rfl (by simp only [xs2, hm, hn, if_true]) hp k
theorem wSl (pc' : Nat) (L' : xL) {n nL : Nat} {rt : Option FieldType} {x : Int64} (hi : xIns G M pc = some (.lstore n)) (hm : (xMet G M).2.2 = (nL, rt)) (hn : n + 1 < nL) (hl : xst2 L n (.long x) = L') (hp : pc + 2 = pc') (k : xT G sc d M pc' L' st h Q) : xT G sc d M pc L (.long x :: st) h Q := by
  subst hl; exact tS2 hi rfl (by simp only [xs2, hm, hn, if_true]) hp k
theorem wSln (pc' : Nat) (L' : xL) {n : Fin 4} {nL : Nat} {rt : Option FieldType} {x : Int64} (hi : xIns G M pc = some (.lstore_n n)) (hm : (xMet G M).2.2 = (nL, rt)) (hn : n.val + 1 < nL) (hl : xst2 L n.val (.long x) = L') (hp : pc + 1 = pc') (k : xT G sc d M pc' L' st h Q) : xT G sc d M pc L (.long x :: st) h Q := by
  subst hl; exact tS2 hi rfl (by simp only [xs2, hm, hn, if_true]) hp k
theorem wSan (pc' : Nat) (L' : xL) {n : Fin 4} {nL : Nat} {rt : Option FieldType} {x : Nat} (hi : xIns G M pc = some (.astore_n n)) (hm : (xMet G M).2.2 = (nL, rt)) (hn : n.val < nL) (hl : xst1 L n.val (.ref x) = L') (hp : pc + 1 = pc') (k : xT G sc d M pc' L' st h Q) : xT G sc d M pc L (.ref x :: st) h Q := by
  subst hl; exact tS2 hi rfl (by simp only [xs2, hm, hn, if_true]) hp k
theorem wInc (pc' : Nat) (L' : xL) {n nL : Nat} {c : Int} {rt : Option FieldType} {x : Int32} (v : Int32) (hi : xIns G M pc = some (.iinc n c)) (hm : (xMet G M).2.2 = (nL, rt)) (hn : n < nL) (hv : L.lookup n = some (.int x)) (hx : x + Int32.ofInt c = v) (hl : xst1 L n (.int v) = L') (hp : pc + 3 = pc') (k : xT G sc d M pc' L' st h Q) : xT G sc d M pc L st h Q := by
  subst hl; subst hx; exact tS2 hi rfl (by simp only [xs2, hv, hm, hn, if_true]) hp k
theorem wGo (pc' : Nat) {off : Int} (hi : xIns G M pc = some (.goto off)) (hj : xjmp pc off = some pc') (k : xT G sc d M pc' L st h Q) : xT G sc d M pc L st h Q := tGo hi hj k
theorem wZ (t pc' : Nat) {q : ClassFile.Cond} {off : Int} {x : Int32} (hi : xIns G M pc = some (.ifCond q off)) (hj : xjmp pc off = some t) (hp : pc + 3 = pc') (kt : xcond q x 0 = true → xT G sc d M t L st h Q) (kf : xcond q x 0 = false → xT G sc d M pc' L st h Q) : xT G sc d M pc L (.int x :: st) h Q := by subst hp; exact tIf0 hi hj kt kf
theorem wZT (t : Nat) {q : ClassFile.Cond} {off : Int} {x : Int32} (hi : xIns G M pc = some (.ifCond q off)) (hj : xjmp pc off = some t) (hc : xcond q x 0 = true) (k : xT G sc d M t L st h Q) : xT G sc d M pc L (.int x :: st) h Q := tIf0T hi hj hc k
theorem wZF (t pc' : Nat) {q : ClassFile.Cond} {off : Int} {x : Int32} (hi : xIns G M pc = some (.ifCond q off)) (hj : xjmp pc off = some t) (hc : xcond q x 0 = false) (hp : pc + 3 = pc') (k : xT G sc d M pc' L st h Q) : xT G sc d M pc L (.int x :: st) h Q := by subst hp; exact tIf0F hi hj hc k
theorem wC (t pc' : Nat) {q : ClassFile.Cond} {off : Int} {x y : Int32} (hi : xIns G M pc = some (.if_icmp q off)) (hj : xjmp pc off = some t) (hp : pc + 3 = pc') (kt : xcond q x y = true → xT G sc d M t L st h Q) (kf : xcond q x y = false → xT G sc d M pc' L st h Q) : xT G sc d M pc L (.int y :: .int x :: st) h Q := by subst hp; exact tIf2 hi hj kt kf
theorem wCT (t : Nat) {q : ClassFile.Cond} {off : Int} {x y : Int32} (hi : xIns G M pc = some (.if_icmp q off)) (hj : xjmp pc off = some t) (hc : xcond q x y = true) (k : xT G sc d M t L st h Q) : xT G sc d M pc L (.int y :: .int x :: st) h Q := tIf2T hi hj hc k
theorem wCF (t pc' : Nat) {q : ClassFile.Cond} {off : Int} {x y : Int32} (hi : xIns G M pc = some (.if_icmp q off)) (hj : xjmp pc off = some t) (hc : xcond q x y = false) (hp : pc + 3 = pc') (k : xT G sc d M pc' L st h Q) : xT G sc d M pc L (.int y :: .int x :: st) h Q := by subst hp; exact tIf2F hi hj hc k
theorem wGet (pc' : Nat) {k0 a ci j : Nat} {fs : List Value} (v : Value) (hi : xIns G M pc = some (.getfield k0)) (hf : xFld G M k0 = some (ci, j)) (hc : h[a]? = some (.inr (ci, fs))) (hv : fs[j]? = some v) (hp : pc + 3 = pc') (k : xT G sc d M pc' L (v :: st) h Q) : xT G sc d M pc L (.ref a :: st) h Q := tS4 hi rfl (by simp only [xs4, hf, hc, if_true, hv]) hp k
theorem wPut (pc' : Nat) {k0 a ci j : Nat} {ty : FieldType} {fs : List Value} {v : Value} (hi : xIns G M pc = some (.putfield k0)) (hf : xPut G M k0 = some (ci, j, ty)) (hc : h[a]? = some (.inr (ci, fs))) (hl : j < fs.length) (hn : narrow ty v = v) (hfit : fits ty v = true) (hp : pc + 3 = pc') (k : xT G sc d M pc' L st (h.set a (.inr (ci, fs.set j v))) Q) : xT G sc d M pc L (v :: .ref a :: st) h Q := tS4 hi rfl (by simp only [xs4, hf, hc]; rw [if_pos ⟨trivial, hl, hn, hfit⟩]) hp k
theorem wIal (pc' : Nat) {a n : Nat} {j : Int32} {f : Nat → Int32} (hi : xIns G M pc = some .iaload) (hc : h[a]? = some (.inl (.int, n, .inl f))) (hj : ¬ (j < 0 ∨ n ≤ j.toNatClampNeg)) (hp : pc + 1 = pc') (k : xT G sc d M pc' L (.int (f j.toNatClampNeg) :: st) h Q) : xT G sc d M pc L (.int j :: .ref a :: st) h Q := tS4 hi rfl (by simp only [xs4, hc, hj, if_false]) hp k
theorem wLal (pc' : Nat) {a n : Nat} {j : Int32} {f : Nat → Int64} (hi : xIns G M pc = some .laload) (hc : h[a]? = some (.inl (.long, n, .inr (.inl f)))) (hj : ¬ (j < 0 ∨ n ≤ j.toNatClampNeg)) (hp : pc + 1 = pc') (k : xT G sc d M pc' L (.long (f j.toNatClampNeg) :: st) h Q) : xT G sc d M pc L (.int j :: .ref a :: st) h Q := tS4 hi rfl (by simp only [xs4, hc, hj, if_false]) hp k
theorem wZal (pc' : Nat) {a n : Nat} {j : Int32} {f : Nat → Int32} (hi : xIns G M pc = some .baload) (hc : h[a]? = some (.inl (.boolean, n, .inl f))) (hj : ¬ (j < 0 ∨ n ≤ j.toNatClampNeg)) (hp : pc + 1 = pc') (k : xT G sc d M pc' L (.int (f j.toNatClampNeg) :: st) h Q) : xT G sc d M pc L (.int j :: .ref a :: st) h Q := tS4 hi rfl (by simp only [xs4, hc, hj, if_false]) hp k
theorem wSal (pc' : Nat) {j : Int32} (hi : xIns G M pc = some .iaload) (hj : ¬ (j < 0 ∨ sc.1 ≤ j.toNatClampNeg)) (hp : pc + 1 = pc') (k : xT G sc d M pc' L (.int (sc.2 j.toNatClampNeg) :: st) h Q) : xT G sc d M pc L (.int j :: .retAddr 0 :: st) h Q := tS4 hi rfl (by show (if (0 : Nat) ≠ 0 ∨ j < 0 ∨ sc.1 ≤ j.toNatClampNeg then none else some (Value.int (sc.2 j.toNatClampNeg) :: st, h)) = _; rw [if_neg (fun z => z.elim (fun z => z rfl) hj)]) hp k
theorem wIas (pc' : Nat) {a n : Nat} {j x : Int32} {f : Nat → Int32} (hi : xIns G M pc = some .iastore) (hc : h[a]? = some (.inl (.int, n, .inl f))) (hj : ¬ (j < 0 ∨ n ≤ j.toNatClampNeg)) (hp : pc + 1 = pc') (k : xT G sc d M pc' L st (h.set a (.inl (.int, n, .inl (upd f j.toNatClampNeg x)))) Q) : xT G sc d M pc L (.int x :: .int j :: .ref a :: st) h Q := tS4 hi rfl (by simp only [xs4, hc, hj, if_false]) hp k
theorem wLas (pc' : Nat) {a n : Nat} {j : Int32} {x : Int64} {f : Nat → Int64} (hi : xIns G M pc = some .lastore) (hc : h[a]? = some (.inl (.long, n, .inr (.inl f)))) (hj : ¬ (j < 0 ∨ n ≤ j.toNatClampNeg)) (hp : pc + 1 = pc') (k : xT G sc d M pc' L st (h.set a (.inl (.long, n, .inr (.inl (vp_updL f j.toNatClampNeg x))))) Q) : xT G sc d M pc L (.long x :: .int j :: .ref a :: st) h Q := tS4 hi rfl (by simp only [xs4, hc, hj, if_false]) hp k
theorem wZas (pc' : Nat) {a n : Nat} {j x : Int32} {f : Nat → Int32} (hi : xIns G M pc = some .bastore) (hc : h[a]? = some (.inl (.boolean, n, .inl f))) (hj : ¬ (j < 0 ∨ n ≤ j.toNatClampNeg)) (hp : pc + 1 = pc') (k : xT G sc d M pc' L st (h.set a (.inl (.boolean, n, .inl (upd f j.toNatClampNeg (x &&& 1))))) Q) : xT G sc d M pc L (.int x :: .int j :: .ref a :: st) h Q := tS4 hi rfl (by simp only [xs4, hc, hj, if_false]) hp k
theorem wAln (pc' : Nat) {a : Nat} {ty : FieldType} {x : vp_A} {n : Int32} (hi : xIns G M pc = some .arraylength) (hc : h[a]? = some (.inl (ty, x))) (ht : xprim ty = true) (hn : Int32.ofNat x.1 = n) (hp : pc + 1 = pc') (k : xT G sc d M pc' L (.int n :: st) h Q) : xT G sc d M pc L (.ref a :: st) h Q := by subst hn; exact tS4 hi rfl (by simp only [xs4, hc, ht, if_true]) hp k
theorem wSln0 (pc' : Nat) (hi : xIns G M pc = some .arraylength) (hp : pc + 1 = pc') (k : xT G sc d M pc' L (.int (Int32.ofNat sc.1) :: st) h Q) : xT G sc d M pc L (.retAddr 0 :: st) h Q := tS4 hi rfl rfl hp k
theorem wBln (pc' : Nat) {e : Nat} {l : List Int32} {n : Int32} (hi : xIns G M pc = some .arraylength) (he : (e % 2 = 0 ∧ ¬ e = 1000) ∧ e / 2 - 1 < (xByt G).length) (h0 : ¬ e = 0) (hl : (xByt G).getD (e / 2 - 1) [] = l) (hn : Int32.ofNat l.length = n) (hp : pc + 1 = pc') (k : xT G sc d M pc' L (.int n :: st) h Q) : xT G sc d M pc L (.retAddr e :: st) h Q := by subst hn; subst hl; exact tS4 hi rfl (by simp only [xs4]; rw [if_neg h0, if_pos he]) hp k
theorem wBal (pc' : Nat) {e : Nat} {j : Int32} {l : List Int32} (hi : xIns G M pc = some .baload) (he : ¬ (e = 0 ∨ e % 2 = 1 ∨ e = 1000 ∨ (xByt G).length ≤ e / 2 - 1)) (hl : (xByt G).getD (e / 2 - 1) [] = l) (hj : ¬ (j < 0 ∨ l.length ≤ j.toNatClampNeg)) (hp : pc + 1 = pc') (k : xT G sc d M pc' L (.int (l.getD j.toNatClampNeg 0) :: st) h Q) : xT G sc d M pc L (.int j :: .retAddr e :: st) h Q := by subst hl; exact tS4 hi rfl (by simp only [xs4]; rw [if_neg (fun z => z.elim he hj)]) hp k
theorem wGfv (pc' : Nat) {k0 e : Nat} (hi : xIns G M pc = some (.getfield k0)) (he : e % 2 = 1 ∧ e / 2 < (xByt G).length) (hf : xExf G M k0 = some 0) (h9 : ¬ e = 999) (hp : pc + 3 = pc') (k : xT G sc d M pc' L (.retAddr (2 * (e / 2) + 2) :: st) h Q) : xT G sc d M pc L (.retAddr e :: st) h Q := tS4 hi rfl (by simp only [xs4]; rw [if_pos he, hf]; exact if_neg h9) hp k
theorem wGfc (pc' : Nat) {k0 e : Nat} (hi : xIns G M pc = some (.getfield k0)) (he : e % 2 = 1 ∧ e / 2 < (xByt G).length) (hf : xExf G M k0 = some 1) (hp : pc + 3 = pc') (k : xT G sc d M pc' L (.int 0 :: st) h Q) : xT G sc d M pc L (.retAddr e :: st) h Q := tS4 hi rfl (by simp only [xs4]; rw [if_pos he, hf]; rfl) hp k
theorem wGs (pc' : Nat) {k0 : Nat} {v : Value} (hi : xIns G M pc = some (.getstatic k0)) (hf : xSta G M k0 = some v) (hp : pc + 3 = pc') (k : xT G sc d M pc' L (v :: st) h Q) : xT G sc d M pc L st h Q := tS4 hi rfl (by simp only [xs4, hf]) hp k
theorem wLdS (pc' : Nat) {k0 i0 : Nat} (hi : xIns G M pc = some (.ldc k0)) (hc : xCon G M k0 = none) (hs : xStr G M k0 = some i0) (hp : pc + 2 = pc') (k : xT G sc d M pc' L (.retAddr (2 * i0 + 1) :: st) h Q) : xT G sc d M pc L st h Q := tS2 hi rfl (by simp only [xs2, hc, hs]) hp k
theorem wSxn (pc' : Nat) (L' : xL) {n : Fin 4} {nL : Nat} {rt : Option FieldType} {x : Nat} (hi : xIns G M pc = some (.astore_n n)) (hm : (xMet G M).2.2 = (nL, rt)) (hn : n.val < nL) (hx : ¬ x = 1000) (hl : xst1 L n.val (.retAddr x) = L') (hp : pc + 1 = pc') (k : xT G sc d M pc' L' st h Q) : xT G sc d M pc L (.retAddr x :: st) h Q := by
  subst hl; exact tS2 hi rfl (by simp only [xs2, hm]; exact if_pos ⟨hn, hx⟩) hp k
theorem wSx (pc' : Nat) (L' : xL) {n : Nat} {nL : Nat} {rt : Option FieldType} {x : Nat} (hi : xIns G M pc = some (.astore n)) (hm : (xMet G M).2.2 = (nL, rt)) (hn : n < nL) (hx : ¬ x = 1000) (hl : xst1 L n (.retAddr x) = L') (hp : pc + 2 = pc') (k : xT G sc d M pc' L' st h Q) : xT G sc d M pc L (.retAddr x :: st) h Q := by
  subst hl; exact tS2 hi rfl (by simp only [xs2, hm]; exact if_pos ⟨hn, hx⟩) hp k
theorem wRa {nL : Nat} {C : String} {e : Nat} (hi : xIns G M pc = some .areturn) (hm : (xMet G M).2.2 = (nL, some (.object C))) (hx : ¬ e = 1000) (k : Q (some (.retAddr e), h, 0, 0)) : xT G sc d M pc L [.retAddr e] h Q := tR1 hi rfl (by rw [hm]; exact decide_eq_true hx) k
theorem wR0 {nL : Nat} (hi : xIns G M pc = some .return_) (hm : (xMet G M).2.2 = (nL, none)) (k : Q (none, h, 0, 0)) : xT G sc d M pc L [] h Q := tR0 hi rfl (by rw [hm]; rfl) k
theorem wRi {nL : Nat} {ty : FieldType} {x : Int32} (hi : xIns G M pc = some .ireturn) (hm : (xMet G M).2.2 = (nL, some ty)) (hn : narrow ty (.int x) = .int x) (k : Q (some (.int x), h, 0, 0)) : xT G sc d M pc L [.int x] h Q := tR1 hi rfl (by rw [hm]; exact decide_eq_true hn) k
theorem wRl {nL : Nat} {x : Int64} (hi : xIns G M pc = some .lreturn) (hm : (xMet G M).2.2 = (nL, some .long)) (k : Q (some (.long x), h, 0, 0)) : xT G sc d M pc L [.long x] h Q := tR1 hi rfl (by rw [hm]; rfl) k
/-- a call whose run is known whole: it makes nothing -/
theorem wCall (pc' : Nat) {i : Instr} {kind N k0 ci nL : Nat} {rt : Option FieldType} {as rest : List Value} {v : Option Value} {h' : xH} (hi : xIns G M pc = some i) (hs : xsort i = 9) (hl : xlink (xMth G M) i = some (kind, N, k0, ci)) (hk : kind = 0 ∨ kind = 1 ∨ kind = 4 ∨ kind = 5) (hm : (xMet G N).2.2 = (nL, rt)) (hst : st = as.reverse ++ rest) (h0 : as.length = k0) (h2 : (rest.map (fun v => v.category)).sum ≤ 8) (h3 : (lg_sl as).length ≤ nL) (h4 : xhead (xByt G).length kind ci as h = true) (hp : pc + 3 = pc')
    (hc : xT G sc d N 0 (lv_args 0 as) [] h (fun r => r = (v, h', 0, 0))) (k : xT G sc (d + 1) M pc' L (v.toList ++ rest) h' Q) : xT G sc (d + 1) M pc L st h Q := by
  subst hp
  subst h0
  subst hst
  refine tCall hi hs hl hk (as := as) (rest := rest) (by rw [List.take_left' (by simp)]; simp) (by rw [List.drop_left' (by simp)]) (by simp) h2 (by rw [hm]; exact h3) h4 (tPost hc ?_)
  rintro r rfl
  refine tPost k ?_
  rintro ⟨v2, h2', a2, b2⟩ hq
  simpa using hq
end XRU
theorem xlk0 {G : xG} {M k : Nat} {r : Nat × Nat × Nat} (h : xMth G M k = some (0, r)) : xlink (xMth G M) (.invokevirtual k) = some (0, r) := by simp only [xlink, h]
theorem xlk1 {G : xG} {M k : Nat} {r : Nat × Nat × Nat} (h : xMth G M k = some (1, r)) : xlink (xMth G M) (.invokestatic k) = some (1, r) := by simp only [xlink, h]
theorem xlk4 {G : xG} {M k : Nat} {r : Nat × Nat × Nat} (h : xMth G M k = some (4, r)) : xlink (xMth G M) (.invokespecial k) = some (4, r) := by simp only [xlink, h]
theorem xlk5 {G : xG} {M k : Nat} {r : Nat × Nat × Nat} (h : xMth G M k = some (5, r)) : xlink (xMth G M) (.invokespecial k) = some (5, r) := by simp only [xlink, h]
abbrev xI (n : Nat) : xE := .inl (.int, n, .inl (fun _ => 0))
abbrev xJ (n : Nat) : xE := .inl (.long, n, .inr (.inl (fun _ => 0)))
abbrev xB (n : Nat) : xE := .inl (.byte, n, .inl (fun _ => 0))
abbrev xZ (n : Nat) : xE := .inl (.boolean, n, .inl (fun _ => 0))
section XRV
variable {G : xG} {sc : xS} {d M pc : Nat} {L : xL} {st : List Value} {h : xH} {Q : xR → Prop}
/-- a call whose run is known whole, that answers nothing; what it makes is counted -/
theorem wCallV (pc' : Nat) {i : Instr} {kind N k0 ci nL : Nat} {rt : Option FieldType} (as rest : List Value) {h' : xH} {a b : Nat} (hi : xIns G M pc = some i) (hs : xsort i = 9) (hl : xlink (xMth G M) i = some (kind, N, k0, ci)) (hk : kind = 0 ∨ kind = 1 ∨ kind = 4 ∨ kind = 5) (hm : (xMet G N).2.2 = (nL, rt)) (ha : (st.take k0).reverse = as) (hr : st.drop k0 = rest) (h1 : k0 ≤ st.length) (h2 : (rest.map (fun v => v.category)).sum ≤ 8) (h3 : (lg_sl as).length ≤ nL) (h4 : xhead (xByt G).length kind ci as h = true) (hp : pc + 3 = pc')
    (hc : xT G sc d N 0 (lv_args 0 as) [] h (fun r => r = (none, h', a, b))) (k : xT G sc (d + 1) M pc' L rest h' (fun r2 => Q (r2.1, r2.2.1, a + r2.2.2.1, b + r2.2.2.2))) : xT G sc (d + 1) M pc L st h Q := by
  subst hp
  refine tCall hi hs hl hk ha hr h1 h2 (by rw [hm]; exact h3) h4 (tPost hc ?_)
  rintro r rfl
  exact k
theorem wCallR (pc' : Nat) {i : Instr} {kind N k0 ci nL : Nat} {rt : Option FieldType} (as rest : List Value) {v : Value} {h' : xH} {a b : Nat} (hi : xIns G M pc = some i) (hs : xsort i = 9) (hl : xlink (xMth G M) i = some (kind, N, k0, ci)) (hk : kind = 0 ∨ kind = 1 ∨ kind = 4 ∨ kind = 5) (hm : (xMet G N).2.2 = (nL, rt)) (ha : (st.take k0).reverse = as) (hr : st.drop k0 = rest) (h1 : k0 ≤ st.length) (h2 : (rest.map (fun v => v.category)).sum ≤ 8) (h3 : (lg_sl as).length ≤ nL) (h4 : xhead (xByt G).length kind ci as h = true) (hp : pc + 3 = pc')
    (hc : xT G sc d N 0 (lv_args 0 as) [] h (fun r => r = (some v, h', a, b))) (k : xT G sc (d + 1) M pc' L (v :: rest) h' (fun r2 => Q (r2.1, r2.2.1, a + r2.2.2.1, b + r2.2.2.2))) : xT G sc (d + 1) M pc L st h Q := by
  subst hp
  refine tCall hi hs hl hk ha hr h1 h2 (by rw [hm]; exact h3) h4 (tPost hc ?_)
  rintro r rfl
  exact k
/-- the same, where nothing is made -/
theorem wCallV0 (pc' : Nat) {i : Instr} {kind N k0 ci nL : Nat} {rt : Option FieldType} (as rest : List Value) {h' : xH} (hi : xIns G M pc = some i) (hs : xsort i = 9) (hl : xlink (xMth G M) i = some (kind, N, k0, ci)) (hk : kind = 0 ∨ kind = 1 ∨ kind = 4 ∨ kind = 5) (hm : (xMet G N).2.2 = (nL, rt)) (ha : (st.take k0).reverse = as) (hr : st.drop k0 = rest) (h1 : k0 ≤ st.length) (h2 : (rest.map (fun v => v.category)).sum ≤ 8) (h3 : (lg_sl as).length ≤ nL) (h4 : xhead (xByt G).length kind ci as h = true) (hp : pc + 3 = pc')
    (hc : xT G sc d N 0 (lv_args 0 as) [] h (fun r => r = (none, h', 0, 0))) (k : xT G sc (d + 1) M pc' L rest h' Q) : xT G sc (d + 1) M pc L st h Q :=
  wCallV pc' as rest hi hs hl hk hm ha hr h1 h2 h3 h4 hp hc (tPost k (fun r hq => by simpa using hq))
theorem wCallR0 (pc' : Nat) {i : Instr} {kind N k0 ci nL : Nat} {rt : Option FieldType} (as rest : List Value) {v : Value} {h' : xH} (hi : xIns G M pc = some i) (hs : xsort i = 9) (hl : xlink (xMth G M) i = some (kind, N, k0, ci)) (hk : kind = 0 ∨ kind = 1 ∨ kind = 4 ∨ kind = 5) (hm : (xMet G N).2.2 = (nL, rt)) (ha : (st.take k0).reverse = as) (hr : st.drop k0 = rest) (h1 : k0 ≤ st.length) (h2 : (rest.map (fun v => v.category)).sum ≤ 8) (h3 : (lg_sl as).length ≤ nL) (h4 : xhead (xByt G).length kind ci as h = true) (hp : pc + 3 = pc')
    (hc : xT G sc d N 0 (lv_args 0 as) [] h (fun r => r = (some v, h', 0, 0))) (k : xT G sc (d + 1) M pc' L (v :: rest) h' Q) : xT G sc (d + 1) M pc L st h Q :=
  wCallR pc' as rest hi hs hl hk hm ha hr h1 h2 h3 h4 hp hc (tPost k (fun r hq => by simpa using hq))
end XRV
theorem xset_self {h : xH} {a : Nat} {c : xE} (hc : h[a]? = some c) : h.set a c = h := by
  apply List.ext_getElem?
  intro i
  by_cases hi : i = a
  · subst hi
    rw [List.getElem?_set_self (List.getElem?_eq_some_iff.mp hc).1, hc]
  · rw [List.getElem?_set_ne (Ne.symm hi)]
theorem xset_get {h : xH} {a : Nat} {c c' : xE} (hc : h[a]? = some c) : (h.set a c')[a]? = some c' := List.getElem?_set_self (List.getElem?_eq_some_iff.mp hc).1
theorem xset_ne {h : xH} {a b : Nat} {c' : xE} (hab : a ≠ b) : (h.set a c')[b]? = h[b]? := List.getElem?_set_ne hab
/-- a place in a row, known as a number -/
theorem xinb {n N : Nat} (h : n < N) (hN : N < 2 ^ 31) : ¬ (nI n < 0 ∨ N ≤ (nI n).toNatClampNeg) := nI_in h hN
theorem xinb2 {j : Int32} {N : Nat} (M : Int32) (h1 : ¬ j < 0) (h2 : ¬ M ≤ j) (hM : M.toInt = N) : ¬ (j < 0 ∨ N ≤ j.toNatClampNeg) := by
  rintro (z | z)
  · exact h1 z
  · apply h2
    rw [Int32.le_iff_toInt_le, hM]
    have h3 : ¬ j.toInt < 0 := fun q => h1 (by rw [Int32.lt_iff_toInt_lt]; simpa using q)
    have h4 : j.toNatClampNeg = j.toInt.toNat := rfl
    omega
section XRE
variable {G : xG} {sc : xS} {d M pc : Nat} {L : xL} {st : List Value} {h : xH} {v : Option Value} {hz : xH}
/-- rules for a run that is known whole: what is still to come is counted down -/
theorem eNew {k0 ci n N : Nat} (a b a' b' : Nat) (hi : xIns G M pc = some (.new k0)) (hc : xCls G M k0 = some ci) (hn : h.length = n) (hN : (xDfl G ci).length = N) (ha : 1 + a' = a) (hb : N + b' = b) (k : xT G sc d M (pc + 3) L (.ref n :: st) (h ++ [.inr (ci, xDfl G ci)]) (fun r => r = (v, hz, a', b'))) : xT G sc d M pc L st h (fun r => r = (v, hz, a, b)) := by
  subst ha; subst hb; subst hN
  exact tNew hi hc hn (tPost k (by rintro r rfl; rfl))
theorem eNewA {t : ArrayType} {k0 : Int32} {n N : Nat} {c : xE} (a b a' b' : Nat) (hi : xIns G M pc = some (.newarray t)) (hk : ¬ (k0 < 0 ∨ 1000000 < k0.toNatClampNeg)) (hN : k0.toNatClampNeg = N) (hc : xnew t N = some c) (hn : h.length = n) (ha : 1 + a' = a) (hb : N + b' = b) (k : xT G sc d M (pc + 2) L (.ref n :: st) (h ++ [c]) (fun r => r = (v, hz, a', b'))) : xT G sc d M pc L (.int k0 :: st) h (fun r => r = (v, hz, a, b)) := by
  subst ha; subst hb
  exact tNewA hi hk hN hc hn (tPost k (by rintro r rfl; rfl))
theorem eCallV (pc' : Nat) {i : Instr} {kind N k0 ci nL : Nat} {rt : Option FieldType} (as rest : List Value) {h' : xH} {a0 b0 : Nat} (a b a' b' : Nat) (hi : xIns G M pc = some i) (hs : xsort i = 9) (hl : xlink (xMth G M) i = some (kind, N, k0, ci)) (hk : kind = 0 ∨ kind = 1 ∨ kind = 4 ∨ kind = 5) (hm : (xMet G N).2.2 = (nL, rt)) (ha : (st.take k0).reverse = as) (hr : st.drop k0 = rest) (h1 : k0 ≤ st.length) (h2 : (rest.map (fun v => v.category)).sum ≤ 8) (h3 : (lg_sl as).length ≤ nL) (h4 : xhead (xByt G).length kind ci as h = true) (hp : pc + 3 = pc')
    (hc : xT G sc d N 0 (lv_args 0 as) [] h (fun r => r = (none, h', a0, b0))) (hca : a0 + a' = a) (hcb : b0 + b' = b) (k : xT G sc (d + 1) M pc' L rest h' (fun r => r = (v, hz, a', b'))) : xT G sc (d + 1) M pc L st h (fun r => r = (v, hz, a, b)) := by
  subst hca; subst hcb
  exact wCallV pc' as rest hi hs hl hk hm ha hr h1 h2 h3 h4 hp hc (tPost k (by rintro r rfl; rfl))
end XRE
section XRC
variable {G : xG} {sc : xS} {d D M pc : Nat} {L : xL} {st : List Value} {h : xH} {Q : xR → Prop}
/-- what is left to do in the caller, behind a callee that makes nothing -/
def xK (G : xG) (sc : xS) (D M pc : Nat) (L : xL) (rest : List Value) (Q : xR → Prop) : xR → Prop := fun r => r.2.2 = (0, 0) ∧ xT G sc D M pc L (r.1.toList ++ rest) r.2.1 Q
/-- a call, walked into -/
theorem jCall (pc' : Nat) {i : Instr} {kind N k0 ci nL : Nat} {rt : Option FieldType} (as rest : List Value) (L0 : xL) (hi : xIns G M pc = some i) (hs : xsort i = 9) (hl : xlink (xMth G M) i = some (kind, N, k0, ci)) (hk : kind = 0 ∨ kind = 1 ∨ kind = 4 ∨ kind = 5) (hm : (xMet G N).2.2 = (nL, rt)) (ha : (st.take k0).reverse = as) (hr : st.drop k0 = rest) (h1 : k0 ≤ st.length) (h2 : (rest.map (fun v => v.category)).sum ≤ 8) (h3 : (lg_sl as).length ≤ nL) (h4 : xhead (xByt G).length kind ci as h = true) (hp : pc + 3 = pc') (hL : lv_args 0 as = L0)
    (k : xT G sc d N 0 L0 [] h (xK G sc (d + 1) M pc' L rest Q)) : xT G sc (d + 1) M pc L st h Q := by
  subst hp
  subst hL
  refine tCall hi hs hl hk ha hr h1 h2 (by rw [hm]; exact h3) h4 (tPost k ?_)
  rintro ⟨v, h', a, b⟩ ⟨e1, e2⟩
  cases e1
  exact tPost e2 (fun r hq => by simpa using hq)
theorem jRi {nL : Nat} {ty : FieldType} {x : Int32} {M' pc' : Nat} {L' : xL} {rest : List Value} (hi : xIns G M pc = some .ireturn) (hm : (xMet G M).2.2 = (nL, some ty)) (hn : narrow ty (.int x) = .int x) (k : xT G sc D M' pc' L' (.int x :: rest) h Q) : xT G sc d M pc L [.int x] h (xK G sc D M' pc' L' rest Q) := wRi hi hm hn ⟨rfl, k⟩
theorem jRl {nL : Nat} {x : Int64} {M' pc' : Nat} {L' : xL} {rest : List Value} (hi : xIns G M pc = some .lreturn) (hm : (xMet G M).2.2 = (nL, some .long)) (k : xT G sc D M' pc' L' (.long x :: rest) h Q) : xT G sc d M pc L [.long x] h (xK G sc D M' pc' L' rest Q) := wRl hi hm ⟨rfl, k⟩
theorem jR0 {nL : Nat} {M' pc' : Nat} {L' : xL} {rest : List Value} (hi : xIns G M pc = some .return_) (hm : (xMet G M).2.2 = (nL, none)) (k : xT G sc D M' pc' L' rest h Q) : xT G sc d M pc L [] h (xK G sc D M' pc' L' rest Q) := wR0 hi hm ⟨rfl, k⟩
/-- a known run of a callee that makes nothing, as a predicate -/
theorem jUse (pc' : Nat) {i : Instr} {kind N k0 ci nL : Nat} {rt : Option FieldType} (as rest : List Value) (L0 : xL) {Q' : xR → Prop} (hi : xIns G M pc = some i) (hs : xsort i = 9) (hl : xlink (xMth G M) i = some (kind, N, k0, ci)) (hk : kind = 0 ∨ kind = 1 ∨ kind = 4 ∨ kind = 5) (hm : (xMet G N).2.2 = (nL, rt)) (ha : (st.take k0).reverse = as) (hr : st.drop k0 = rest) (h1 : k0 ≤ st.length) (h2 : (rest.map (fun v => v.category)).sum ≤ 8) (h3 : (lg_sl as).length ≤ nL) (h4 : xhead (xByt G).length kind ci as h = true) (hp : pc + 3 = pc') (hL : lv_args 0 as = L0)
    (hc : xT G sc d N 0 L0 [] h Q') (k : ∀ r, Q' r → r.2.2 = (0, 0) ∧ xT G sc (d + 1) M pc' L (r.1.toList ++ rest) r.2.1 Q) : xT G sc (d + 1) M pc L st h Q := jCall pc' as rest L0 hi hs hl hk hm ha hr h1 h2 h3 h4 hp hL (tPost hc k)
/-- nothing is copied -/
theorem wCopy0i {k0 N na ci : Nat} (pc' : Nat) {dp sp : Int32} {a1 a0 n0 n1 : Nat} {f g : Nat → Int32} (hi : xIns G M pc = some (.invokestatic k0)) (hl : xMth G M k0 = some (7, N, na, ci)) (h0 : h[a0]? = some (.inl (.int, n0, .inl f))) (h1 : h[a1]? = some (.inl (.int, n1, .inl g))) (hd : ¬ dp < 0) (hs : ¬ sp < 0) (h2 : sp.toNatClampNeg ≤ n0) (h3 : dp.toNatClampNeg ≤ n1) (h4 : (st.map (fun v => v.category)).sum ≤ 8) (hp : pc + 3 = pc') (k : xT G sc (d + 1) M pc' L st h Q) : xT G sc (d + 1) M pc L (.int 0 :: .int dp :: .ref a1 :: .int sp :: .ref a0 :: st) h Q := by
  subst hp
  have hno : ¬ ((0 : Int32) < 0 ∨ dp < 0 ∨ sp < 0 ∨ 8 < (st.map (fun v => v.category)).sum) := by
    rintro (z | z | z | z)
    · exact absurd z (by decide)
    · exact hd z
    · exact hs z
    · omega
  have hz : (0 : Int32).toNatClampNeg = 0 := rfl
  have hg : va_cpy f g sp.toNatClampNeg dp.toNatClampNeg 0 = g := by
    funext j
    exact pk_cpy_out (by omega)
  refine tCopy hi hl (st' := st) (h' := h) ?_ k
  simp only [xcopy, hno, if_false, h0, h1, hz, Nat.add_zero]
  rw [if_pos ⟨h2, h3⟩, hg, xset_self h1]
theorem wCopy0l {k0 N na ci : Nat} (pc' : Nat) {dp sp : Int32} {a1 a0 n0 n1 : Nat} {f g : Nat → Int64} (hi : xIns G M pc = some (.invokestatic k0)) (hl : xMth G M k0 = some (7, N, na, ci)) (h0 : h[a0]? = some (.inl (.long, n0, .inr (.inl f)))) (h1 : h[a1]? = some (.inl (.long, n1, .inr (.inl g)))) (hd : ¬ dp < 0) (hs : ¬ sp < 0) (h2 : sp.toNatClampNeg ≤ n0) (h3 : dp.toNatClampNeg ≤ n1) (h4 : (st.map (fun v => v.category)).sum ≤ 8) (hp : pc + 3 = pc') (k : xT G sc (d + 1) M pc' L st h Q) : xT G sc (d + 1) M pc L (.int 0 :: .int dp :: .ref a1 :: .int sp :: .ref a0 :: st) h Q := by
  subst hp
  have hno : ¬ ((0 : Int32) < 0 ∨ dp < 0 ∨ sp < 0 ∨ 8 < (st.map (fun v => v.category)).sum) := by
    rintro (z | z | z | z)
    · exact absurd z (by decide)
    · exact hd z
    · exact hs z
    · omega
  have hz : (0 : Int32).toNatClampNeg = 0 := rfl
  have hg : va_cpy f g sp.toNatClampNeg dp.toNatClampNeg 0 = g := by
    funext j
    exact pk_cpy_out (by omega)
  refine tCopy hi hl (st' := st) (h' := h) ?_ k
  simp only [xcopy, hno, if_false, h0, h1, hz, Nat.add_zero]
  rw [if_pos ⟨h2, h3⟩, hg, xset_self h1]
/-- a table's switch at a known number -/
theorem wSw (pc' : Nat) {dd lo hi0 : Int} {offs : Array Int} {x : Int32} (hi : xIns G M pc = some (.tableswitch dd lo hi0 offs)) (h1 : xs3 pc (.tableswitch dd lo hi0 offs) (.int x :: st) = some (pc', st)) (k : xT G sc d M pc' L st h Q) : xT G sc d M pc L (.int x :: st) h Q := tS3 hi rfl h1 k
theorem wSwD (pc' : Nat) {dd lo hi0 : Int} {offs : Array Int} {x : Int32} (hi : xIns G M pc = some (.tableswitch dd lo hi0 offs)) (hx : x.toInt < lo ∨ hi0 < x.toInt) (hj : xjmp pc dd = some pc') (k : xT G sc d M pc' L st h Q) : xT G sc d M pc L (.int x :: st) h Q := tS3 hi rfl (by simp only [xs3, if_pos hx, hj, Option.map_some]) k
end XRC
theorem wl_lt {a l : Int32} {N : Int64} (hl : l.toInt64 = N) (h : a < l) : lg_cmp a.toInt64 N < 0 := by
  subst hl
  have h1 : a.toInt64 < l.toInt64 := by
    rw [Int64.lt_iff_toInt_lt, Int32.toInt_toInt64, Int32.toInt_toInt64, ← Int32.lt_iff_toInt_lt]; exact h
  have h2 : ¬ a.toInt64 > l.toInt64 := fun z => absurd (Int64.lt_iff_toInt_lt.mp z) (by have := Int64.lt_iff_toInt_lt.mp h1; omega)
  have h3 : ¬ a.toInt64 = l.toInt64 := fun z => by rw [z] at h1; exact absurd (Int64.lt_iff_toInt_lt.mp h1) (by omega)
  unfold lg_cmp
  rw [if_neg h2, if_neg h3]
  decide
theorem wl_nlt {a l : Int32} {N : Int64} (hl : l.toInt64 = N) (h : ¬ a < l) : ¬ lg_cmp a.toInt64 N < 0 := by
  subst hl
  have h1 : l.toInt64 ≤ a.toInt64 := by
    rw [Int64.le_iff_toInt_le, Int32.toInt_toInt64, Int32.toInt_toInt64]
    have : ¬ a.toInt < l.toInt := fun z => h (Int32.lt_iff_toInt_lt.mpr z)
    omega
  unfold lg_cmp
  split
  · decide
  · split
    · decide
    · rename_i h2 h3
      exact absurd (show a.toInt64 = l.toInt64 from Int64.toInt_inj.mp (by have := Int64.le_iff_toInt_le.mp h1; have h4 : ¬ l.toInt64.toInt < a.toInt64.toInt := fun z => h2 (Int64.lt_iff_toInt_lt.mpr z); omega)) h3
theorem wl_gt {a l : Int32} {N : Int64} (hl : l.toInt64 = N) (h : l < a) : 0 < lg_cmp a.toInt64 N := by
  subst hl
  have h1 : l.toInt64 < a.toInt64 := by
    rw [Int64.lt_iff_toInt_lt, Int32.toInt_toInt64, Int32.toInt_toInt64, ← Int32.lt_iff_toInt_lt]; exact h
  unfold lg_cmp
  rw [if_pos h1]
  decide
theorem wl_ngt {a l : Int32} {N : Int64} (hl : l.toInt64 = N) (h : ¬ l < a) : ¬ 0 < lg_cmp a.toInt64 N := by
  subst hl
  have h1 : ¬ a.toInt64 > l.toInt64 := fun z => h (by
    have z : l.toInt64 < a.toInt64 := z
    rw [Int64.lt_iff_toInt_lt, Int32.toInt_toInt64, Int32.toInt_toInt64, ← Int32.lt_iff_toInt_lt] at z; exact z)
  unfold lg_cmp
  rw [if_neg h1]
  split <;> decide
end
section
theorem x_lhl {x a y : Int32} (h : x ≤ a) (h2 : a < y) : x < y := by rw [Int32.lt_iff_toInt_lt] at *; rw [Int32.le_iff_toInt_le] at h; omega
theorem x_nll {x a y : Int32} (h : a ≤ x) (h2 : y ≤ a) : ¬ x < y := by rw [Int32.lt_iff_toInt_lt]; rw [Int32.le_iff_toInt_le] at h h2; omega
theorem x_lel {x a y : Int32} (h : x ≤ a) (h2 : a ≤ y) : x ≤ y := by rw [Int32.le_iff_toInt_le] at *; omega
theorem x_nle {x a y : Int32} (h : a ≤ x) (h2 : y < a) : ¬ x ≤ y := by rw [Int32.le_iff_toInt_le] at *; rw [Int32.lt_iff_toInt_lt] at h2; omega
theorem x_llh {x a y : Int32} (h : a ≤ y) (h2 : x < a) : x < y := by rw [Int32.lt_iff_toInt_lt] at *; rw [Int32.le_iff_toInt_le] at h; omega
theorem x_nlh {x a y : Int32} (h : y ≤ a) (h2 : a ≤ x) : ¬ x < y := by rw [Int32.lt_iff_toInt_lt]; rw [Int32.le_iff_toInt_le] at h h2; omega
theorem x_leh {x a y : Int32} (h : a ≤ y) (h2 : x ≤ a) : x ≤ y := by rw [Int32.le_iff_toInt_le] at *; omega
theorem x_neh {x a y : Int32} (h : y ≤ a) (h2 : a < x) : ¬ x ≤ y := by rw [Int32.le_iff_toInt_le] at *; rw [Int32.lt_iff_toInt_lt] at h2; omega
theorem x_lt1 {x y z : Int32} (h : x < y) (h2 : z.toInt + 1 = y.toInt) : x ≤ z := by rw [Int32.lt_iff_toInt_lt] at h; rw [Int32.le_iff_toInt_le]; omega
theorem x_gt1 {x y z : Int32} (h : x < y) (h2 : x.toInt + 1 = z.toInt) : z ≤ y := by rw [Int32.lt_iff_toInt_lt] at h; rw [Int32.le_iff_toInt_le]; omega
theorem x_nel {x a y : Int32} (h : a ≤ x) (h2 : y < a) : ¬ x = y := fun z => by subst z; rw [Int32.lt_iff_toInt_lt] at h2; rw [Int32.le_iff_toInt_le] at h; omega
theorem x_neg {x a y : Int32} (h : x ≤ a) (h2 : a < y) : ¬ x = y := fun z => by subst z; rw [Int32.lt_iff_toInt_lt] at h2; rw [Int32.le_iff_toInt_le] at h; omega
theorem x_ib {j a b : Int32} {N : Nat} (h1 : a ≤ j) (h2 : j ≤ b) (ha : 0 ≤ a.toInt) (hb : b.toInt < N) : ¬ (j < 0 ∨ N ≤ j.toNatClampNeg) := by
  rw [Int32.le_iff_toInt_le] at h1 h2
  rintro (z | z)
  · rw [Int32.lt_iff_toInt_lt] at z
    have : (0 : Int32).toInt = 0 := rfl
    omega
  · have h4 : j.toNatClampNeg = j.toInt.toNat := rfl
    omega
theorem x_cl {j a b : Int32} (h1 : a ≤ j) (h2 : j ≤ b) (ha : 0 ≤ a.toInt) : ∃ n : Nat, j = nI n ∧ (n : Int) = j.toInt ∧ j.toNatClampNeg = n := by
  rw [Int32.le_iff_toInt_le] at h1 h2
  have h4 : j.toNatClampNeg = j.toInt.toNat := rfl
  have hlt : j.toInt < 2 ^ 31 := Int32.toInt_lt j
  refine ⟨j.toInt.toNat, ?_, by omega, h4⟩
  apply Int32.toInt_inj.mp
  rw [nI_toInt (by omega)]
  omega
section XRD
variable {G : xG} {sc : xS} {d M pc : Nat} {L : xL} {st : List Value} {h : xH} {Q : xR → Prop}
theorem wRem (pc' : Nat) {x y : Int32} (hi : xIns G M pc = some .irem) (hy : ¬ y = 0) (hp : pc + 1 = pc') (k : xT G sc d M pc' L (.int (x - x / y * y) :: st) h Q) : xT G sc d M pc L (.int y :: .int x :: st) h Q := wA pc' hi rfl (by simp only [xs1, hy, if_false]) hp k
theorem wDiv (pc' : Nat) {x y : Int32} (hi : xIns G M pc = some .idiv) (hy : ¬ y = 0) (hp : pc + 1 = pc') (k : xT G sc d M pc' L (.int (x / y) :: st) h Q) : xT G sc d M pc L (.int y :: .int x :: st) h Q := wA pc' hi rfl (by simp only [xs1, hy, if_false]) hp k
end XRD
section XRF
variable {G : xG} {sc : xS} {d M pc : Nat} {L : xL} {st : List Value} {h : xH} {Q : xR → Prop}
theorem upd_self {f : Nat → Int32} {j : Nat} {x : Int32} (hx : f j = x) : upd f j x = f := by
  funext q
  by_cases hq : q = j
  · subst hq; rw [pk_us, hx]
  · rw [pk_un hq]
/-- what stands there is put there once more -/
theorem wIasS (pc' : Nat) {a n : Nat} {j x : Int32} {f : Nat → Int32} (hi : xIns G M pc = some .iastore) (hc : h[a]? = some (.inl (.int, n, .inl f))) (hj : ¬ (j < 0 ∨ n ≤ j.toNatClampNeg)) (hx : f j.toNatClampNeg = x) (hp : pc + 1 = pc') (k : xT G sc d M pc' L st h Q) : xT G sc d M pc L (.int x :: .int j :: .ref a :: st) h Q := wIas pc' hi hc hj hp (by rw [upd_self hx, xset_self hc]; exact k)
theorem wPutS (pc' : Nat) {k0 a ci j : Nat} {ty : FieldType} {fs : List Value} {v : Value} (hi : xIns G M pc = some (.putfield k0)) (hf : xPut G M k0 = some (ci, j, ty)) (hc : h[a]? = some (.inr (ci, fs))) (hv : fs[j]? = some v) (hn : narrow ty v = v) (hfit : fits ty v = true) (hp : pc + 3 = pc') (k : xT G sc d M pc' L st h Q) : xT G sc d M pc L (v :: .ref a :: st) h Q := by
  have hl : j < fs.length := (List.getElem?_eq_some_iff.mp hv).1
  have e1 : fs.set j v = fs := by
    apply List.ext_getElem?
    intro i
    by_cases hi : i = j
    · subst hi; rw [List.getElem?_set_self hl, hv]
    · rw [List.getElem?_set_ne (Ne.symm hi)]
  exact wPut pc' hi hf hc hl hn hfit hp (by rw [e1, xset_self hc]; exact k)
end XRF
section XRG
variable {G : xG} {sc : xS} {d M pc : Nat} {L : xL} {st : List Value} {h : xH} {Q : xR → Prop}
theorem updL_self {f : Nat → Int64} {j : Nat} {x : Int64} (hx : f j = x) : vp_updL f j x = f := by
  funext q
  by_cases hq : q = j
  · subst hq; rw [pk_uLs, hx]
  · rw [pk_uLn hq]
theorem wLasS (pc' : Nat) {a n : Nat} {j : Int32} {x : Int64} {f : Nat → Int64} (hi : xIns G M pc = some .lastore) (hc : h[a]? = some (.inl (.long, n, .inr (.inl f)))) (hj : ¬ (j < 0 ∨ n ≤ j.toNatClampNeg)) (hx : f j.toNatClampNeg = x) (hp : pc + 1 = pc') (k : xT G sc d M pc' L st h Q) : xT G sc d M pc L (.long x :: .int j :: .ref a :: st) h Q := wLas pc' hi hc hj hp (by rw [updL_self hx, xset_self hc]; exact k)
theorem wZasS (pc' : Nat) {a n : Nat} {j x : Int32} {f : Nat → Int32} (hi : xIns G M pc = some .bastore) (hc : h[a]? = some (.inl (.boolean, n, .inl f))) (hj : ¬ (j < 0 ∨ n ≤ j.toNatClampNeg)) (hx : f j.toNatClampNeg = x &&& 1) (hp : pc + 1 = pc') (k : xT G sc d M pc' L st h Q) : xT G sc d M pc L (.int x :: .int j :: .ref a :: st) h Q := wZas pc' hi hc hj hp (by rw [upd_self hx, xset_self hc]; exact k)
end XRG
/-- a place in a row of rows -/
theorem x_ib2 {p i A B N : Nat} (a : Int32) (ha : a = nI A) (hp : p < B) (hi : i < A) (hN : A * B ≤ N) (hM : N < 2 ^ 31) : ¬ (a * nI p + nI i < 0 ∨ N ≤ (a * nI p + nI i).toNatClampNeg) := by
  subst ha
  rw [pk_mul, nI_add]
  have h1 : A * p + i < A * B := by
    have : A * (p + 1) ≤ A * B := Nat.mul_le_mul_left A hp
    rw [Nat.mul_succ] at this
    omega
  exact xinb (by omega) hM
end
section
-- ===== end of PART A; then your names; then what follows =====
/-! THE CLAIM OUT OF ONE WALK OF THE LAW'S BODY. Your part is whole_start (and what it stands on); all else here is the same for every law, but numbers. -/
def R_law : String := "LateRowsLaw"
def lw_P (b : Addr) (xs : List Int32) (args : Array Value) (s : State) : Prop := args = #[.ref b] ∧ s.IntsAt b xs ∧ xs.length ≤ 3072 ∧ (Jvm.Cond.and given_1 narrow_1).before args s = true
def lw_Q (_ : Array Value) (s : State) (o : Outcome) (t : State) : Prop := o = .returned (some (.int 1)) ∧ Framed s o t [] 600000 7302250
def lw_Z (below : List Frame) (a : Array Value) (s : State) : State → Prop := fun t => ∃ o, t.status = .running ∧ Ended t below o ∧ lw_Q a s o t
/-- the law's own end, with 1 on the stack, nothing written that was there before, its room as the claim has it -/
theorem lw_ret {p : Program} {l : Launch} {e : Env} {s : State} {m : MethodId} {below : List Frame} {meth : Method} {c : Code} {b : Nat} (hx : p.tables.exec = Jvm.exec) (hb : c.code = code) (hr : meth.sig.returnType = ret) (hlocks : meth.locks = false) {pc : Nat} {H : Heap} {ls : Array Slot} (hdg : decode code pc = .ok (.ireturn, 1)) : W p l e room_1 s m #[Value.ref b] below meth c H [] 600000 7302250 (lw_Z below #[Value.ref b] s) (F0 m pc ls [.int 1]) := by
  intro T hT X
  obtain ⟨fs, hret, hrun, hended, hW, hframe⟩ := X.leave (v := some (.int 1)) (hlocks := hlocks) (fun h => by rw [hr] at h; cases h)
  have hmeth' : T.vm.method? m = some meth := X.method'
  refine ⟨T.setFrames fs, ?_, .returned (some (.int 1)), hrun, hended, rfl, ⟨_, rfl⟩, hW, hframe⟩
  jvm_step X.here [X.here.top, hx, hb, hdg, hmeth', hr, ret, narrow_b1]
  (try refine ⟨rfl, ?_⟩); (try refine ⟨rfl, ?_⟩)
  first | (intro acts; rw [hret _ acts rfl rfl rfl]) | rw [hret _ _ rfl rfl rfl]
  exact Steps.refl _
/-- what holds at the law's entry: the machine, the code, the tables' words (any of lw_tbl by 'hts w (by decide +kernel)'), the script of L ints xs at the cell b, what the Statement gives of the start (any of its parts by flat_of_before) -/
def lw_At (p : Program) (s : State) (m : MethodId) (meth : Method) (c : Code) (b L : Nat) (xs : Nat → Int32) : Prop :=
  p.tables.exec = Jvm.exec ∧ c.code = code ∧ meth.sig.returnType = ret ∧ c.maxLocals = 4 ∧ s.vm.findClass R_law = some m.cls ∧ (∀ w ∈ lw_tbl, w.before #[Value.ref b] s = true) ∧ va_X b L xs s s.heap ∧ b < s.heap.size ∧ meth.locks = false ∧ (Jvm.Cond.and given_1 narrow_1).before #[Value.ref b] s = true
end
section
def xF : List Cond := flatC (Jvm.Cond.and given_1 narrow_1)
def xtm (i : Nat) : Term := Term.string (xrs.getD i ("", 0, "", 0)).1 (xrs.getD i ("", 0, "", 0)).2.1
def xln : List Nat := xbyt.map List.length
theorem xF_ex : (List.range xrs.length).all (fun i => decide (Cond.exactly (xtm i) "java/lang/String" ∈ xF)) = true := by decide +kernel
theorem xF_co : (List.range xrs.length).all (fun i => decide (Cond.eq (.field (xtm i) "java/lang/String" "coder" "B") (.int 0) ∈ xF)) = true := by decide +kernel
theorem xF_ar : (List.range xrs.length).all (fun i => decide (Cond.arrayOf (.field (xtm i) "java/lang/String" "value" "[B") .byte ∈ xF)) = true := by decide +kernel
theorem xF_le : (List.range xrs.length).all (fun i => decide (Cond.eq (.length (.field (xtm i) "java/lang/String" "value" "[B")) (.int (Int32.ofNat (xln.getD i 0))) ∈ xF)) = true := by decide +kernel
theorem xF_el : (List.range xrs.length).all (fun i => (List.range (xln.getD i 0)).all (fun j => decide (Cond.eq (.elem (.field (xtm i) "java/lang/String" "value" "[B") (.int (Int32.ofNat j))) (.int ((xbyt.getD i []).getD j 0)) ∈ xF))) = true := by decide +kernel
theorem xF_sm : (List.range xrs.length).all (fun i => decide (xln.getD i 0 < 2 ^ 31)) = true := by decide +kernel
theorem xF_st : (decide (Cond.laysStatic "java/lang/String" "COMPACT_STRINGS" "Z" ∈ xF ∨ Cond.laysStatic "java/lang/String" "COMPACT_STRINGS" "Z" ∈ lw_tbl)) = true := by decide +kernel
theorem xF_cs : (decide (Cond.eq (.static "java/lang/String" "COMPACT_STRINGS" "Z") (.int 1) ∈ xF)) = true := by decide +kernel
theorem xF_pr : (decide (Cond.isRef (.static "jdk/internal/util/Preconditions" "SIOOBE_FORMATTER" "Ljava/util/function/BiFunction;") ∈ xF)) = true := by decide +kernel
/-- one text, out of the words of the start -/
theorem x_text {s : State} {args : Array Value} (hF : ∀ c ∈ xF, c.before args s = true) (i : Nat) (hi : i < xrs.length) : ∃ a v : Nat, va_O "java/lang/String" a (fun q => s.heap.size ≤ q) s s.heap ∧ va_OF "java/lang/String" "coder" "B" (.int 0) a (fun q => s.heap.size ≤ q) s s.heap ∧ va_OF "java/lang/String" "value" "[B" (.ref v) a (fun q => s.heap.size ≤ q) s s.heap ∧ va_T .byte v (xln.getD i 0) (fun j => .int ((xbyt.getD i []).getD j 0)) (fun q => s.heap.size ≤ q) s s.heap ∧ (xtm i).eval args s none [] s = some (.ref a) := by
  have hr := List.mem_range.mpr hi
  have g1 := of_decide_eq_true (List.all_eq_true.mp xF_ex i hr)
  have g2 := of_decide_eq_true (List.all_eq_true.mp xF_co i hr)
  have g3 := of_decide_eq_true (List.all_eq_true.mp xF_ar i hr)
  have g4 := of_decide_eq_true (List.all_eq_true.mp xF_le i hr)
  have g5 := List.all_eq_true.mp (List.all_eq_true.mp xF_el i hr)
  have g6 := of_decide_eq_true (List.all_eq_true.mp xF_sm i hr)
  obtain ⟨adK, adV, hS, hE⟩ := vk_Sof (args := args) (s := s) (N := 1) (tm := fun _ => xtm i) (len := [xln.getD i 0]) (byt := [xbyt.getD i []]) (A := fun q => s.heap.size ≤ q) (fun k hk => by cases Nat.lt_one_iff.mp hk; exact g6) (fun k hk => hF _ g1) (fun k hk => hF _ g2) (fun k hk => hF _ g3) (fun k hk => by cases Nat.lt_one_iff.mp hk; exact hF _ g4) (fun k hk j hj => by cases Nat.lt_one_iff.mp hk; exact hF _ (of_decide_eq_true (g5 j (List.mem_range.mpr hj)))) (fun a b ha hb hab => absurd ((Nat.lt_one_iff.mp ha).trans (Nat.lt_one_iff.mp hb).symm) hab) (fun a ha => by show ¬ s.heap.size ≤ a; omega)
  obtain ⟨z1, z2, z3, z4⟩ := hS.1 0 (by decide)
  exact ⟨adK 0, adV 0, z1, z2, z3, z4, hE 0 (by decide)⟩
def xxa (b : Nat) (tk tv : Nat → Nat) (f : Nat) (k : Nat) : Nat := if k = 0 then b else if k = 1000 then f else if k % 2 = 1 then tk (k / 2) else tv (k / 2 - 1)
theorem xF_sl : (decide (Cond.laysStatic "java/lang/String" "COMPACT_STRINGS" "Z" ∈ lw_tbl ++ xF) && decide (Cond.initialized "java/lang/String" ∈ lw_tbl ++ xF) && decide (Cond.laysStatic "jdk/internal/util/Preconditions" "SIOOBE_FORMATTER" "Ljava/util/function/BiFunction;" ∈ lw_tbl ++ xF) && decide (Cond.initialized "jdk/internal/util/Preconditions" ∈ lw_tbl ++ xF)) = true := by decide +kernel
theorem xF_rs : (xrs.all (fun q => decide (xrs.getD q.2.2.2 ("", 0, "", 0) = q) && decide (q.2.2.2 < xrs.length) && decide (Cond.stringRef q.1 q.2.1 q.2.2.1 ∈ lw_tbl ++ xF)) && decide (xrs.length = xbyt.length) && decide (2 * xbyt.length + 2 < 1000)) = true := by decide +kernel
end
section
/-- where the texts and statics lie, at the law's entry -/
theorem x_entry {s : State} {b L : Nat} {xs : Nat → Int32} (hts : ∀ w ∈ lw_tbl, w.before #[Value.ref b] s = true) (hF : ∀ c ∈ xF, c.before #[Value.ref b] s = true) (hX : va_X b L xs s s.heap) : ∃ xa : Nat → Nat, xa 0 = b ∧ xEx xg (L, xs) s.heap.size xa s s.heap ∧ ∀ q ∈ xrs, vk_R q.1 q.2.1 q.2.2.1 (xa (2 * q.2.2.2 + 1)) s := by
  have hall : ∀ c ∈ lw_tbl ++ xF, c.before #[Value.ref b] s = true := fun c hc => (List.mem_append.mp hc).elim (hts c) (hF c)
  have hA : ∀ a : Nat, a < s.heap.size → ¬ s.heap.size ≤ a := fun a ha => by omega
  have hs := xF_sl
  simp only [Bool.and_eq_true, decide_eq_true_eq] at hs
  obtain ⟨⟨⟨s1, s2⟩, s3⟩, s4⟩ := hs
  have hr := xF_rs
  simp only [Bool.and_eq_true, decide_eq_true_eq, List.all_eq_true] at hr
  obtain ⟨⟨r1, r2⟩, r3⟩ := hr
  have hk : ∀ i : Nat, ∃ q : Nat × Nat, i < xrs.length → va_O "java/lang/String" q.1 (fun q => s.heap.size ≤ q) s s.heap ∧ va_OF "java/lang/String" "coder" "B" (.int 0) q.1 (fun q => s.heap.size ≤ q) s s.heap ∧ va_OF "java/lang/String" "value" "[B" (.ref q.2) q.1 (fun q => s.heap.size ≤ q) s s.heap ∧ va_T .byte q.2 (xln.getD i 0) (fun j => .int ((xbyt.getD i []).getD j 0)) (fun q => s.heap.size ≤ q) s s.heap ∧ (xtm i).eval #[Value.ref b] s none [] s = some (.ref q.1) := by
    intro i
    by_cases hi : i < xrs.length
    · obtain ⟨a, v, z⟩ := x_text hF i hi
      exact ⟨(a, v), fun _ => z⟩
    · exact ⟨(0, 0), fun z => absurd z hi⟩
  obtain ⟨tk, htk⟩ : ∃ tk : Nat → Nat × Nat, ∀ i, i < xrs.length → va_O "java/lang/String" (tk i).1 (fun q => s.heap.size ≤ q) s s.heap ∧ va_OF "java/lang/String" "coder" "B" (.int 0) (tk i).1 (fun q => s.heap.size ≤ q) s s.heap ∧ va_OF "java/lang/String" "value" "[B" (.ref (tk i).2) (tk i).1 (fun q => s.heap.size ≤ q) s s.heap ∧ va_T .byte (tk i).2 (xln.getD i 0) (fun j => .int ((xbyt.getD i []).getD j 0)) (fun q => s.heap.size ≤ q) s s.heap ∧ (xtm i).eval #[Value.ref b] s none [] s = some (.ref (tk i).1) := ⟨fun i => Classical.choose (hk i), fun i => Classical.choose_spec (hk i)⟩
  obtain ⟨v, hv1, hv2⟩ := Cond.isRef_spec (hF _ (of_decide_eq_true xF_pr))
  obtain ⟨f, hf⟩ : ∃ f : Nat, v = va_rf (if f = 0 then none else some (f - 1)) := by
    cases v with
    | null => exact ⟨0, rfl⟩
    | ref a => exact ⟨a + 1, rfl⟩
    | _ => cases hv2
  have e1 : ∀ i, i < xrs.length → xxa b (fun i => (tk i).1) (fun i => (tk i).2) f (2 * i + 1) = (tk i).1 := fun i hi => by
    unfold xxa
    rw [if_neg (by omega), if_neg (by omega), if_pos (by omega)]
    show (tk _).1 = _
    rw [show (2 * i + 1) / 2 = i by omega]
  have e2 : ∀ i, i < xrs.length → xxa b (fun i => (tk i).1) (fun i => (tk i).2) f (2 * i + 2) = (tk i).2 := fun i hi => by
    unfold xxa
    rw [if_neg (by omega), if_neg (by omega), if_neg (by omega)]
    show (tk _).2 = _
    rw [show (2 * i + 2) / 2 - 1 = i by omega]
  have hb : xByt xg = xbyt := rfl
  refine ⟨xxa b (fun i => (tk i).1) (fun i => (tk i).2) f, rfl, ⟨hX, fun i hi => ?_, ?_, ?_⟩, fun q hq => ?_⟩
  · rw [hb] at hi ⊢
    have hi' : i < xrs.length := by omega
    obtain ⟨z1, z2, z3, z4, -⟩ := htk i hi'
    rw [e1 i hi', e2 i hi']
    refine ⟨z1, z2, z3, ?_⟩
    have : xln.getD i 0 = (xbyt.getD i []).length := by
      simp only [xln, List.getD_eq_getElem?_getD, List.getElem?_map]
      cases xbyt[i]? <;> rfl
    rw [← this]; exact z4
  · exact va_Zof (hall _ s1) (hall _ s2) (va_eqi (hF _ (of_decide_eq_true xF_cs))) hA
  · have : xv s.heap.size (xxa b (fun i => (tk i).1) (fun i => (tk i).2) f) (.retAddr 1000) = v := by
      rw [hf]; rfl
    rw [this]
    exact va_Zof (hall _ s3) (hall _ s4) hv1 hA
  · obtain ⟨⟨y1, y2⟩, y3⟩ := r1 q hq
    obtain ⟨-, -, -, -, z5⟩ := htk _ y2
    rw [e1 _ y2]
    refine vk_R.of (hall _ y3) ?_
    have : xtm q.2.2.2 = Term.string q.1 q.2.1 := by unfold xtm; rw [y1]
    rw [← this]; exact z5
end
section
theorem xcl_inst {ci : Nat} {C : String} {T : u_T} {N : Nat} (hc : vwCl[ci]? = some (C, T, N)) : Cond.instantiable C N ∈ xTs := by
  have hl : ci < 8 := by
    have := (List.getElem?_eq_some_iff.mp hc).1
    simpa using this
  obtain ⟨d, hd⟩ : ∃ d, xdf[ci]? = some d := ⟨_, List.getElem?_eq_getElem (by simpa [xdf] using hl)⟩
  have h2 := xzip (f := xclD) xclD_all hc hd
  simp only [xclD, Bool.and_eq_true, decide_eq_true_eq] at h2
  obtain ⟨⟨⟨⟨⟨⟨a1, a2⟩, a3⟩, a4⟩, a5⟩, a6⟩, a7⟩ := h2
  exact List.mem_filter.mpr ⟨a1, a2⟩
def xdA (cI cJ cB cZ : ClassId) : FieldType → ClassId
  | .int => cI
  | .long => cJ
  | .byte => cB
  | .boolean => cZ
  | _ => 0
/-- what is known of the classes at the law's entry -/
theorem x_known {s : State} {args : Array Value} (hts : ∀ w ∈ xTs, w.before args s = true) : ∃ (D : va_G) (dA : FieldType → ClassId), va_K D vwCl (xtys dA) s := by
  have hk : ∀ k : Nat, ∃ q : ClassId × (Nat → Nat), ∀ r, vwCl[k]? = some r → u_Kn s r.1 r.2.1 r.2.2 q.1 q.2 := by
    intro k
    cases h : vwCl[k]? with
    | none => exact ⟨(0, fun _ => 0), fun q hq => by cases hq⟩
    | some q =>
      obtain ⟨C, T, N⟩ := q
      obtain ⟨c, iS, hK⟩ := u_known (C := C) (T := T) (N := N) (n := N) hts (xcl_ws h) (hts _ (xcl_inst h))
      exact ⟨(c, iS), fun q hq => by cases hq; exact hK⟩
  obtain ⟨w1, w2, w3, w4⟩ := xok_arr
  obtain ⟨cI, kI, pI, fI, gI, eI⟩ := Cond.arrayClass_spec (hts _ w1)
  obtain ⟨cJ, kJ, pJ, fJ, gJ, eJ⟩ := Cond.arrayClass_spec (hts _ w2)
  obtain ⟨cB, kB, pB, fB, gB, eB⟩ := Cond.arrayClass_spec (hts _ w3)
  obtain ⟨cZ, kZ, pZ, fZ, gZ, eZ⟩ := Cond.arrayClass_spec (hts _ w4)
  refine ⟨(fun k => (Classical.choose (hk k)).1, fun k => (Classical.choose (hk k)).2), xdA cI cJ cB cZ, fun c q hq => Classical.choose_spec (hk c) q hq, fun k q hq => ?_⟩
  match k, hq with
  | 0, hq => cases hq; exact ⟨fun n z => ⟨fun k h => (by cases h), kI, gI, pI, eI⟩, fI⟩
  | 1, hq => cases hq; exact ⟨fun n z => ⟨fun k h => (by cases h), kJ, gJ, pJ, eJ⟩, fJ⟩
  | 2, hq => cases hq; exact ⟨fun n z => ⟨fun k h => (by cases h), kB, gB, pB, eB⟩, fB⟩
  | 3, hq => cases hq; exact ⟨fun n z => ⟨fun k h => (by cases h), kZ, gZ, pZ, eZ⟩, fZ⟩
  | k + 4, hq => simp [xtys] at hq
theorem x_nest {s : State} {args : Array Value} {xa : Nat → Nat} (hts : ∀ w ∈ lw_tbl, w.before args s = true) (h : ∀ q ∈ xnest.1, Cond.methodLinkNest q.1 q.2.1 q.2.2.1 q.2.2.2 ∈ lw_tbl) (hr : ∀ q ∈ xrs, vk_R q.1 q.2.1 q.2.2.1 (xa (2 * q.2.2.2 + 1)) s) : xN xnest xa s := ⟨fun q hq => va_Nw.of rfl (hts _ (h q hq)), hr⟩
set_option maxHeartbeats 4000000 in
/-- THE LAW, out of a run of the evaluator -/
theorem x_law {p : Program} {e : Env} {s : State} {m : MethodId} {below : List Frame} {meth : Method} {c : Code} (l : Launch) {b L : Nat} {xs : Nat → Int32} (C0 : lw_At p s m meth c b L xs) (hnest : ∀ q ∈ xnest.1, Cond.methodLinkNest q.1 q.2.1 q.2.2.1 q.2.2.2 ∈ lw_tbl)
    (hrun : xT xg (L, xs) 1300 0 0 [(0, .retAddr 0)] [] [] (fun r => r.1 = some (.int 1) ∧ r.2.2.1 ≤ 600000 ∧ r.2.2.2 ≤ 7302250)) : W p l e room_1 s m #[Value.ref b] below meth c s.heap [] 0 0 (lw_Z below #[Value.ref b] s) (entryFrame m ([Value.ref b] : List Value).toArray 4) := by
  obtain ⟨hx, hb, hr, hml, hown, hts, hX, hbl, hlocks, hgv⟩ := id C0
  have hts' : ∀ w ∈ xTs, w.before #[Value.ref b] s = true := fun w hw => hts w (List.mem_filter.mp hw).1
  obtain ⟨D, dA, hK⟩ := x_known hts'
  obtain ⟨xa, hxa, hEx, hrs⟩ := x_entry hts (flat_of_before _ hgv) hX
  obtain ⟨n, ⟨v, h', a1, a2⟩, hev, e1, e2, e3⟩ := hrun
  have e1 : v = some (.int 1) := e1
  have e2 : a1 ≤ 600000 := e2
  have e3 : a2 ≤ 7302250 := e3
  subst e1
  have hle := lv_entry ([Value.ref b]) (n := 4) (Nat.le_of_ble_eq_true rfl)
  rw [lg_entry_eq]
  refine x_sound (D := D) (dA := dA) (base := s.heap.size) (xa := xa) (sc := (L, xs)) (l := l) xg_ok xg_okm n 1300 0 0 [(0, .retAddr 0)] [] [] _ hev p e s m _ below meth c room_1 s.heap [] 0 0 _ _ ⟨hx, hb, hml, hown, hts', hK, fun z => by exact absurd z (by decide +kernel), by rw [hxa]; exact hbl, x_nest hts hnest hrs⟩ rfl ⟨rfl, fun k q hq => by simp [xw] at hq⟩ hEx (fun q hq => by cases hq) (by subst hxa; exact hle) (by show 0 + a1 ≤ 600000; omega) (by show 0 + a2 ≤ 7302250; omega) (Nat.le_of_ble_eq_true rfl) (Nat.le_of_ble_eq_true rfl) ?_
  intro pc' ls' i H' locs' hd hv hsz hw' hX' hlc
  have hi : i = .ireturn := by
    unfold xret at hv
    split at hv
    · rename_i z; cases z
    · rfl
    · rename_i z; cases z
    · rename_i z; cases z
    · cases hv
  subst hi
  refine va_forget (fun q hq => hlc q hq) ?_
  refine W.widen (k := 600000) (n := 7302250) (by show 0 + a1 ≤ 600000; omega) (by show 0 + a2 ≤ 7302250; omega) ?_
  exact lw_ret hx hb hr hlocks hd
end
