section XRU
variable {G : xG} {sc : xS} {d M pc : Nat} {L : xL} {st : List Value} {h : xH} {Q : xR → Prop}
/-- rules for a walk: the next place stands ahead -/
theorem wA (pc' : Nat) {i : Instr} (hi : xIns G M pc = some i) (hs : xsort i = 1) {st' : List Value} (h1 : xs1 i st = some st') (hp : pc + 1 = pc') (k : xT G sc d M pc' L st' h Q) : xT G sc d M pc L st h Q := by subst hp; exact tS1 hi hs h1 k
theorem wD (pc' : Nat) {i : Instr} (hi : xIns G M pc = some i) (hs : xsort i = 2) {st' : List Value} (h1 : xs1d i st = some st') (hp : pc + 1 = pc') (k : xT G sc d M pc' L st' h Q) : xT G sc d M pc L st h Q := by subst hp; exact tS1d hi hs h1 k
theorem wK (pc' : Nat) {n : Int} (v : Int32) (hi : xIns G M pc = some (.iconst n)) (hv : Int32.ofInt n = v) (hp : pc + 1 = pc') (k : xT G sc d M pc' L (.int v :: st) h Q) : xT G sc d M pc L st h Q := by subst hv; exact tS2 hi rfl rfl hp k
theorem wKb (pc' : Nat) {n : Int} (v : Int32) (hi : xIns G M pc = some (.bipush n)) (hv : (Int8.ofInt n).toInt32 = v) (hp : pc + 2 = pc') (k : xT G sc d M pc' L (.int v :: st) h Q) : xT G sc d M pc L st h Q := by subst hv; exact tS2 hi rfl rfl hp k
theorem wKs (pc' : Nat) {n : Int} (v : Int32) (hi : xIns G M pc = some (.sipush n)) (hv : (Int16.ofInt n).toInt32 = v) (hp : pc + 3 = pc') (k : xT G sc d M pc' L (.int v :: st) h Q) : xT G sc d M pc L st h Q := by subst hv; exact tS2 hi rfl rfl hp k
theorem wKl (pc' : Nat) {n : Fin 2} (v : Int64) (hi : xIns G M pc = some (.lconst n)) (hv : Int64.ofNat (n : Nat) = v) (hp : pc + 1 = pc') (k : xT G sc d M pc' L (.long v :: st) h Q) : xT G sc d M pc L st h Q := by subst hv; exact tS2 hi rfl rfl hp k
theorem wKc (pc' : Nat) {n : Nat} (v : Int32) (hi : xIns G M pc = some (.ldc n)) (hv : xCon G M n = some (.int v)) (hp : pc + 2 = pc') (k : xT G sc d M pc' L (.int v :: st) h Q) : xT G sc d M pc L st h Q := tS2 hi rfl (by simp only [xs2, hv]) hp k
theorem wKd (pc' : Nat) {n : Nat} (v : Int64) (hi : xIns G M pc = some (.ldc2_w n)) (hv : xCon G M n = some (.long v)) (hp : pc + 3 = pc') (k : xT G sc d M pc' L (.long v :: st) h Q) : xT G sc d M pc L st h Q := tS2 hi rfl (by simp only [xs2, hv]) hp k
theorem wLi (pc' : Nat) {n : Nat} {x : Int32} (hi : xIns G M pc = some (.iload n)) (hv : L.lookup n = some (.int x)) (hp : pc + 2 = pc') (k : xT G sc d M pc' L (.int x :: st) h Q) : xT G sc d M pc L st h Q := tS2 hi rfl (by simp only [xs2, hv]) hp k
theorem wLin (pc' : Nat) {n : Fin 4} {x : Int32} (hi : xIns G M pc = some (.iload_n n)) (hv : L.lookup n.val = some (.int x)) (hp : pc + 1 = pc') (k : xT G sc d M pc' L (.int x :: st) h Q) : xT G sc d M pc L st h Q := tS2 hi rfl (by simp only [xs2, hv]) hp k
theorem wLl (pc' : Nat) {n : Nat} {x : Int64} (hi : xIns G M pc = some (.lload n)) (hv : L.lookup n = some (.long x)) (hp : pc + 2 = pc') (k : xT G sc d M pc' L (.long x :: st) h Q) : xT G sc d M pc L st h Q := tS2 hi rfl (by simp only [xs2, hv]) hp k
theorem wLln (pc' : Nat) {n : Fin 4} {x : Int64} (hi : xIns G M pc = some (.lload_n n)) (hv : L.lookup n.val = some (.long x)) (hp : pc + 1 = pc') (k : xT G sc d M pc' L (.long x :: st) h Q) : xT G sc d M pc L st h Q := tS2 hi rfl (by simp only [xs2, hv]) hp k
theorem wLa (pc' : Nat) {n : Nat} {x : Nat} (hi : xIns G M pc = some (.aload n)) (hv : L.lookup n = some (.ref x)) (hp : pc + 2 = pc') (k : xT G sc d M pc' L (.ref x :: st) h Q) : xT G sc d M pc L st h Q := tS2 hi rfl (by simp only [xs2, hv]) hp k
theorem wLan (pc' : Nat) {n : Fin 4} {x : Nat} (hi : xIns G M pc = some (.aload_n n)) (hv : L.lookup n.val = some (.ref x)) (hp : pc + 1 = pc') (k : xT G sc d M pc' L (.ref x :: st) h Q) : xT G sc d M pc L st h Q := tS2 hi rfl (by simp only [xs2, hv]) hp k
theorem wLsn (pc' : Nat) {n : Fin 4} {x : Nat} (hi : xIns G M pc = some (.aload_n n)) (hv : L.lookup n.val = some (.retAddr x)) (hx : ¬ x = 1000) (hp : pc + 1 = pc') (k : xT G sc d M pc' L (.retAddr x :: st) h Q) : xT G sc d M pc L st h Q := tS2 hi rfl (by simp only [xs2, hv, hx, if_false]) hp k
theorem wLs (pc' : Nat) {n : Nat} {x : Nat} (hi : xIns G M pc = some (.aload n)) (hv : L.lookup n = some (.retAddr x)) (hx : ¬ x = 1000) (hp : pc + 2 = pc') (k : xT G sc d M pc' L (.retAddr x :: st) h Q) : xT G sc d M pc L st h Q := tS2 hi rfl (by simp only [xs2, hv, hx, if_false]) hp k
theorem wSi (pc' : Nat) (L' : xL) {n nL : Nat} {rt : Option FieldType} {x : Int32} (hi : xIns G M pc = some (.istore n)) (hm : (xMet G M).2.2 = (nL, rt)) (hn : n < nL) (hl : xst1 L n (.int x) = L') (hp : pc + 2 = pc') (k : xT G sc d M pc' L' st h Q) : xT G sc d M pc L (.int x :: st) h Q := by
  subst hl; exact tS2 hi rfl (by simp only [xs2, hm, hn, if_true]) hp k
theorem wSin (pc' : Nat) (L' : xL) {n : Fin 4} {nL : Nat} {rt : Option FieldType} {x : Int32} (hi : xIns G M pc = some (.istore_n n)) (hm : (xMet G M).2.2 = (nL, rt)) (hn : n.val < nL) (hl : xst1 L n.val (.int x) = L') (hp : pc + 1 = pc') (k : xT G sc d M pc' L' st h Q) : xT G sc d M pc L (.int x :: st) h Q := by
  subst hl; exact tS2 hi rfl (by simp only [xs2, hm, hn, if_true]) hp k
theorem wSl (pc' : Nat) (L' : xL) {n nL : Nat} {rt : Option FieldType} {x : Int64} (hi : xIns G M pc = some (.lstore n)) (hm : (xMet G M).2.2 = (nL, rt)) (hn : n + 1 < nL) (hl : xst2 L n (.long x) = L') (hp : pc + 2 = pc') (k : xT G sc d M pc' L' st h Q) : xT G sc d M pc L (.long x :: st) h Q := by
  subst hl; exact tS2 hi rfl (by simp only [xs2, hm, hn, if_true]) hp k
theorem wSln (pc' : Nat) (L' : xL) {n : Fin 4} {nL : Nat} {rt : Option FieldType} {x : Int64} (hi : xIns G M pc = some (.lstore_n n)) (hm : (xMet G M).2.2 = (nL, rt)) (hn : n.val + 1 < nL) (hl : xst2 L n.val (.long x) = L') (hp : pc + 1 = pc') (k : xT G sc d M pc' L' st h Q) : xT G sc d M pc L (.long x :: st) h Q := by
  subst hl; exact tS2 hi rfl (by simp only [xs2, hm, hn, if_true]) hp k
theorem wSan (pc' : Nat) (L' : xL) {n : Fin 4} {nL : Nat} {rt : Option FieldType} {x : Nat} (hi : xIns G M pc = some (.astore_n n)) (hm : (xMet G M).2.2 = (nL, rt)) (hn : n.val < nL) (hl : xst1 L n.val (.ref x) = L') (hp : pc + 1 = pc') (k : xT G sc d M pc' L' st h Q) : xT G sc d M pc L (.ref x :: st) h Q := by
  subst hl; exact tS2 hi rfl (by simp only [xs2, hm, hn, if_true]) hp k
theorem wInc (pc' : Nat) (L' : xL) {n nL : Nat} {c : Int} {rt : Option FieldType} {x : Int32} (v : Int32) (hi : xIns G M pc = some (.iinc n c)) (hm : (xMet G M).2.2 = (nL, rt)) (hn : n < nL) (hv : L.lookup n = some (.int x)) (hx : x + Int32.ofInt c = v) (hl : xst1 L n (.int v) = L') (hp : pc + 3 = pc') (k : xT G sc d M pc' L' st h Q) : xT G sc d M pc L st h Q := by
  subst hl; subst hx; exact tS2 hi rfl (by simp only [xs2, hv, hm, hn, if_true]) hp k
theorem wGo (pc' : Nat) {off : Int} (hi : xIns G M pc = some (.goto off)) (hj : xjmp pc off = some pc') (k : xT G sc d M pc' L st h Q) : xT G sc d M pc L st h Q := tGo hi hj k
theorem wZ (t pc' : Nat) {q : ClassFile.Cond} {off : Int} {x : Int32} (hi : xIns G M pc = some (.ifCond q off)) (hj : xjmp pc off = some t) (hp : pc + 3 = pc') (kt : xcond q x 0 = true → xT G sc d M t L st h Q) (kf : xcond q x 0 = false → xT G sc d M pc' L st h Q) : xT G sc d M pc L (.int x :: st) h Q := by subst hp; exact tIf0 hi hj kt kf
theorem wZT (t : Nat) {q : ClassFile.Cond} {off : Int} {x : Int32} (hi : xIns G M pc = some (.ifCond q off)) (hj : xjmp pc off = some t) (hc : xcond q x 0 = true) (k : xT G sc d M t L st h Q) : xT G sc d M pc L (.int x :: st) h Q := tIf0T hi hj hc k
theorem wZF (t pc' : Nat) {q : ClassFile.Cond} {off : Int} {x : Int32} (hi : xIns G M pc = some (.ifCond q off)) (hj : xjmp pc off = some t) (hc : xcond q x 0 = false) (hp : pc + 3 = pc') (k : xT G sc d M pc' L st h Q) : xT G sc d M pc L (.int x :: st) h Q := by subst hp; exact tIf0F hi hj hc k
theorem wC (t pc' : Nat) {q : ClassFile.Cond} {off : Int} {x y : Int32} (hi : xIns G M pc = some (.if_icmp q off)) (hj : xjmp pc off = some t) (hp : pc + 3 = pc') (kt : xcond q x y = true → xT G sc d M t L st h Q) (kf : xcond q x y = false → xT G sc d M pc' L st h Q) : xT G sc d M pc L (.int y :: .int x :: st) h Q := by subst hp; exact tIf2 hi hj kt kf
theorem wCT (t : Nat) {q : ClassFile.Cond} {off : Int} {x y : Int32} (hi : xIns G M pc = some (.if_icmp q off)) (hj : xjmp pc off = some t) (hc : xcond q x y = true) (k : xT G sc d M t L st h Q) : xT G sc d M pc L (.int y :: .int x :: st) h Q := tIf2T hi hj hc k
theorem wCF (t pc' : Nat) {q : ClassFile.Cond} {off : Int} {x y : Int32} (hi : xIns G M pc = some (.if_icmp q off)) (hj : xjmp pc off = some t) (hc : xcond q x y = false) (hp : pc + 3 = pc') (k : xT G sc d M pc' L st h Q) : xT G sc d M pc L (.int y :: .int x :: st) h Q := by subst hp; exact tIf2F hi hj hc k
theorem wGet (pc' : Nat) {k0 a ci j : Nat} {fs : List Value} (v : Value) (hi : xIns G M pc = some (.getfield k0)) (hf : xFld G M k0 = some (ci, j)) (hc : h[a]? = some (.inr (ci, fs))) (hv : fs[j]? = some v) (hp : pc + 3 = pc') (k : xT G sc d M pc' L (v :: st) h Q) : xT G sc d M pc L (.ref a :: st) h Q := tS4 hi rfl (by simp only [xs4, hf, hc, if_true, hv]) hp k
theorem wPut (pc' : Nat) {k0 a ci j : Nat} {ty : FieldType} {fs : List Value} {v : Value} (hi : xIns G M pc = some (.putfield k0)) (hf : xPut G M k0 = some (ci, j, ty)) (hc : h[a]? = some (.inr (ci, fs))) (hl : j < fs.length) (hn : narrow ty v = v) (hfit : fits ty v = true) (hp : pc + 3 = pc') (k : xT G sc d M pc' L st (h.set a (.inr (ci, fs.set j v))) Q) : xT G sc d M pc L (v :: .ref a :: st) h Q := tS4 hi rfl (by simp only [xs4, hf, hc]; rw [if_pos ⟨trivial, hl, hn, hfit⟩]) hp k
theorem wIal (pc' : Nat) {a n : Nat} {j : Int32} {f : Nat → Int32} (hi : xIns G M pc = some .iaload) (hc : h[a]? = some (.inl (.int, n, .inl f))) (hj : ¬ (j < 0 ∨ n ≤ j.toNatClampNeg)) (hp : pc + 1 = pc') (k : xT G sc d M pc' L (.int (f j.toNatClampNeg) :: st) h Q) : xT G sc d M pc L (.int j :: .ref a :: st) h Q := tS4 hi rfl (by simp only [xs4, hc, hj, if_false]) hp k
theorem wLal (pc' : Nat) {a n : Nat} {j : Int32} {f : Nat → Int64} (hi : xIns G M pc = some .laload) (hc : h[a]? = some (.inl (.long, n, .inr (.inl f)))) (hj : ¬ (j < 0 ∨ n ≤ j.toNatClampNeg)) (hp : pc + 1 = pc') (k : xT G sc d M pc' L (.long (f j.toNatClampNeg) :: st) h Q) : xT G sc d M pc L (.int j :: .ref a :: st) h Q := tS4 hi rfl (by simp only [xs4, hc, hj, if_false]) hp k
theorem wZal (pc' : Nat) {a n : Nat} {j : Int32} {f : Nat → Int32} (hi : xIns G M pc = some .baload) (hc : h[a]? = some (.inl (.boolean, n, .inl f))) (hj : ¬ (j < 0 ∨ n ≤ j.toNatClampNeg)) (hp : pc + 1 = pc') (k : xT G sc d M pc' L (.int (f j.toNatClampNeg) :: st) h Q) : xT G sc d M pc L (.int j :: .ref a :: st) h Q := tS4 hi rfl (by simp only [xs4, hc, hj, if_false]) hp k
theorem wSal (pc' : Nat) {j : Int32} (hi : xIns G M pc = some .iaload) (hj : ¬ (j < 0 ∨ sc.1 ≤ j.toNatClampNeg)) (hp : pc + 1 = pc') (k : xT G sc d M pc' L (.int (sc.2 j.toNatClampNeg) :: st) h Q) : xT G sc d M pc L (.int j :: .retAddr 0 :: st) h Q := tS4 hi rfl (by show (if (0 : Nat) ≠ 0 ∨ j < 0 ∨ sc.1 ≤ j.toNatClampNeg then none else some (Value.int (sc.2 j.toNatClampNeg) :: st, h)) = _; rw [if_neg (fun z => z.elim (fun z => z rfl) hj)]) hp k
theorem wIas (pc' : Nat) {a n : Nat} {j x : Int32} {f : Nat → Int32} (hi : xIns G M pc = some .iastore) (hc : h[a]? = some (.inl (.int, n, .inl f))) (hj : ¬ (j < 0 ∨ n ≤ j.toNatClampNeg)) (hp : pc + 1 = pc') (k : xT G sc d M pc' L st (h.set a (.inl (.int, n, .inl (upd f j.toNatClampNeg x)))) Q) : xT G sc d M pc L (.int x :: .int j :: .ref a :: st) h Q := tS4 hi rfl (by simp only [xs4, hc, hj, if_false]) hp k
theorem wLas (pc' : Nat) {a n : Nat} {j : Int32} {x : Int64} {f : Nat → Int64} (hi : xIns G M pc = some .lastore) (hc : h[a]? = some (.inl (.long, n, .inr (.inl f)))) (hj : ¬ (j < 0 ∨ n ≤ j.toNatClampNeg)) (hp : pc + 1 = pc') (k : xT G sc d M pc' L st (h.set a (.inl (.long, n, .inr (.inl (vp_updL f j.toNatClampNeg x))))) Q) : xT G sc d M pc L (.long x :: .int j :: .ref a :: st) h Q := tS4 hi rfl (by simp only [xs4, hc, hj, if_false]) hp k
theorem wZas (pc' : Nat) {a n : Nat} {j x : Int32} {f : Nat → Int32} (hi : xIns G M pc = some .bastore) (hc : h[a]? = some (.inl (.boolean, n, .inl f))) (hj : ¬ (j < 0 ∨ n ≤ j.toNatClampNeg)) (hp : pc + 1 = pc') (k : xT G sc d M pc' L st (h.set a (.inl (.boolean, n, .inl (upd f j.toNatClampNeg (x &&& 1))))) Q) : xT G sc d M pc L (.int x :: .int j :: .ref a :: st) h Q := tS4 hi rfl (by simp only [xs4, hc, hj, if_false]) hp k
theorem wAln (pc' : Nat) {a : Nat} {ty : FieldType} {x : vp_A} {n : Int32} (hi : xIns G M pc = some .arraylength) (hc : h[a]? = some (.inl (ty, x))) (ht : xprim ty = true) (hn : Int32.ofNat x.1 = n) (hp : pc + 1 = pc') (k : xT G sc d M pc' L (.int n :: st) h Q) : xT G sc d M pc L (.ref a :: st) h Q := by subst hn; exact tS4 hi rfl (by simp only [xs4, hc, ht, if_true]) hp k
theorem wSln0 (pc' : Nat) (hi : xIns G M pc = some .arraylength) (hp : pc + 1 = pc') (k : xT G sc d M pc' L (.int (Int32.ofNat sc.1) :: st) h Q) : xT G sc d M pc L (.retAddr 0 :: st) h Q := tS4 hi rfl rfl hp k
theorem wBln (pc' : Nat) {e : Nat} {l : List Int32} {n : Int32} (hi : xIns G M pc = some .arraylength) (he : (e % 2 = 0 ∧ ¬ e = 1000) ∧ e / 2 - 1 < (xByt G).length) (h0 : ¬ e = 0) (hl : (xByt G).getD (e / 2 - 1) [] = l) (hn : Int32.ofNat l.length = n) (hp : pc + 1 = pc') (k : xT G sc d M pc' L (.int n :: st) h Q) : xT G sc d M pc L (.retAddr e :: st) h Q := by subst hn; subst hl; exact tS4 hi rfl (by simp only [xs4]; rw [if_neg h0, if_pos he]) hp k
theorem wBal (pc' : Nat) {e : Nat} {j : Int32} {l : List Int32} (hi : xIns G M pc = some .baload) (he : ¬ (e = 0 ∨ e % 2 = 1 ∨ e = 1000 ∨ (xByt G).length ≤ e / 2 - 1)) (hl : (xByt G).getD (e / 2 - 1) [] = l) (hj : ¬ (j < 0 ∨ l.length ≤ j.toNatClampNeg)) (hp : pc + 1 = pc') (k : xT G sc d M pc' L (.int (l.getD j.toNatClampNeg 0) :: st) h Q) : xT G sc d M pc L (.int j :: .retAddr e :: st) h Q := by subst hl; exact tS4 hi rfl (by simp only [xs4]; rw [if_neg (fun z => z.elim he hj)]) hp k
theorem wGfv (pc' : Nat) {k0 e : Nat} (hi : xIns G M pc = some (.getfield k0)) (he : e % 2 = 1 ∧ e / 2 < (xByt G).length) (hf : xExf G M k0 = some 0) (h9 : ¬ e = 999) (hp : pc + 3 = pc') (k : xT G sc d M pc' L (.retAddr (2 * (e / 2) + 2) :: st) h Q) : xT G sc d M pc L (.retAddr e :: st) h Q := tS4 hi rfl (by simp only [xs4]; rw [if_pos he, hf]; exact if_neg h9) hp k
theorem wGfc (pc' : Nat) {k0 e : Nat} (hi : xIns G M pc = some (.getfield k0)) (he : e % 2 = 1 ∧ e / 2 < (xByt G).length) (hf : xExf G M k0 = some 1) (hp : pc + 3 = pc') (k : xT G sc d M pc' L (.int 0 :: st) h Q) : xT G sc d M pc L (.retAddr e :: st) h Q := tS4 hi rfl (by simp only [xs4]; rw [if_pos he, hf]; rfl) hp k
theorem wGs (pc' : Nat) {k0 : Nat} {v : Value} (hi : xIns G M pc = some (.getstatic k0)) (hf : xSta G M k0 = some v) (hp : pc + 3 = pc') (k : xT G sc d M pc' L (v :: st) h Q) : xT G sc d M pc L st h Q := tS4 hi rfl (by simp only [xs4, hf]) hp k
theorem wLdS (pc' : Nat) {k0 i0 : Nat} (hi : xIns G M pc = some (.ldc k0)) (hc : xCon G M k0 = none) (hs : xStr G M k0 = some i0) (hp : pc + 2 = pc') (k : xT G sc d M pc' L (.retAddr (2 * i0 + 1) :: st) h Q) : xT G sc d M pc L st h Q := tS2 hi rfl (by simp only [xs2, hc, hs]) hp k
theorem wSxn (pc' : Nat) (L' : xL) {n : Fin 4} {nL : Nat} {rt : Option FieldType} {x : Nat} (hi : xIns G M pc = some (.astore_n n)) (hm : (xMet G M).2.2 = (nL, rt)) (hn : n.val < nL) (hx : ¬ x = 1000) (hl : xst1 L n.val (.retAddr x) = L') (hp : pc + 1 = pc') (k : xT G sc d M pc' L' st h Q) : xT G sc d M pc L (.retAddr x :: st) h Q := by
  subst hl; exact tS2 hi rfl (by simp only [xs2, hm]; exact if_pos ⟨hn, hx⟩) hp k
theorem wSx (pc' : Nat) (L' : xL) {n : Nat} {nL : Nat} {rt : Option FieldType} {x : Nat} (hi : xIns G M pc = some (.astore n)) (hm : (xMet G M).2.2 = (nL, rt)) (hn : n < nL) (hx : ¬ x = 1000) (hl : xst1 L n (.retAddr x) = L') (hp : pc + 2 = pc') (k : xT G sc d M pc' L' st h Q) : xT G sc d M pc L (.retAddr x :: st) h Q := by
  subst hl; exact tS2 hi rfl (by simp only [xs2, hm]; exact if_pos ⟨hn, hx⟩) hp k
theorem wRa {nL : Nat} {C : String} {e : Nat} (hi : xIns G M pc = some .areturn) (hm : (xMet G M).2.2 = (nL, some (.object C))) (hx : ¬ e = 1000) (k : Q (some (.retAddr e), h, 0, 0)) : xT G sc d M pc L [.retAddr e] h Q := tR1 hi rfl (by rw [hm]; exact decide_eq_true hx) k
theorem wR0 {nL : Nat} (hi : xIns G M pc = some .return_) (hm : (xMet G M).2.2 = (nL, none)) (k : Q (none, h, 0, 0)) : xT G sc d M pc L [] h Q := tR0 hi rfl (by rw [hm]; rfl) k
theorem wRi {nL : Nat} {ty : FieldType} {x : Int32} (hi : xIns G M pc = some .ireturn) (hm : (xMet G M).2.2 = (nL, some ty)) (hn : narrow ty (.int x) = .int x) (k : Q (some (.int x), h, 0, 0)) : xT G sc d M pc L [.int x] h Q := tR1 hi rfl (by rw [hm]; exact decide_eq_true hn) k
theorem wRl {nL : Nat} {x : Int64} (hi : xIns G M pc = some .lreturn) (hm : (xMet G M).2.2 = (nL, some .long)) (k : Q (some (.long x), h, 0, 0)) : xT G sc d M pc L [.long x] h Q := tR1 hi rfl (by rw [hm]; rfl) k
/-- a call whose run is known whole: it makes nothing -/
theorem wCall (pc' : Nat) {i : Instr} {kind N k0 ci nL : Nat} {rt : Option FieldType} {as rest : List Value} {v : Option Value} {h' : xH} (hi : xIns G M pc = some i) (hs : xsort i = 9) (hl : xlink (xMth G M) i = some (kind, N, k0, ci)) (hk : kind = 0 ∨ kind = 1 ∨ kind = 4 ∨ kind = 5) (hm : (xMet G N).2.2 = (nL, rt)) (hst : st = as.reverse ++ rest) (h0 : as.length = k0) (h2 : (rest.map (fun v => v.category)).sum ≤ 8) (h3 : (lg_sl as).length ≤ nL) (h4 : xhead (xByt G).length kind ci as h = true) (hp : pc + 3 = pc')
    (hc : xT G sc d N 0 (lv_args 0 as) [] h (fun r => r = (v, h', 0, 0))) (k : xT G sc (d + 1) M pc' L (v.toList ++ rest) h' Q) : xT G sc (d + 1) M pc L st h Q := by
  subst hp
  subst h0
  subst hst
  refine tCall hi hs hl hk (as := as) (rest := rest) (by rw [List.take_left' (by simp)]; simp) (by rw [List.drop_left' (by simp)]) (by simp) h2 (by rw [hm]; exact h3) h4 (tPost hc ?_)
  rintro r rfl
  refine tPost k ?_
  rintro ⟨v2, h2', a2, b2⟩ hq
  simpa using hq
end XRU
theorem xlk0 {G : xG} {M k : Nat} {r : Nat × Nat × Nat} (h : xMth G M k = some (0, r)) : xlink (xMth G M) (.invokevirtual k) = some (0, r) := by simp only [xlink, h]
theorem xlk1 {G : xG} {M k : Nat} {r : Nat × Nat × Nat} (h : xMth G M k = some (1, r)) : xlink (xMth G M) (.invokestatic k) = some (1, r) := by simp only [xlink, h]
theorem xlk4 {G : xG} {M k : Nat} {r : Nat × Nat × Nat} (h : xMth G M k = some (4, r)) : xlink (xMth G M) (.invokespecial k) = some (4, r) := by simp only [xlink, h]
theorem xlk5 {G : xG} {M k : Nat} {r : Nat × Nat × Nat} (h : xMth G M k = some (5, r)) : xlink (xMth G M) (.invokespecial k) = some (5, r) := by simp only [xlink, h]
abbrev xI (n : Nat) : xE := .inl (.int, n, .inl (fun _ => 0))
abbrev xJ (n : Nat) : xE := .inl (.long, n, .inr (.inl (fun _ => 0)))
abbrev xB (n : Nat) : xE := .inl (.byte, n, .inl (fun _ => 0))
abbrev xZ (n : Nat) : xE := .inl (.boolean, n, .inl (fun _ => 0))
section XRV
variable {G : xG} {sc : xS} {d M pc : Nat} {L : xL} {st : List Value} {h : xH} {Q : xR → Prop}
/-- a call whose run is known whole, that answers nothing; what it makes is counted -/
theorem wCallV (pc' : Nat) {i : Instr} {kind N k0 ci nL : Nat} {rt : Option FieldType} (as rest : List Value) {h' : xH} {a b : Nat} (hi : xIns G M pc = some i) (hs : xsort i = 9) (hl : xlink (xMth G M) i = some (kind, N, k0, ci)) (hk : kind = 0 ∨ kind = 1 ∨ kind = 4 ∨ kind = 5) (hm : (xMet G N).2.2 = (nL, rt)) (ha : (st.take k0).reverse = as) (hr : st.drop k0 = rest) (h1 : k0 ≤ st.length) (h2 : (rest.map (fun v => v.category)).sum ≤ 8) (h3 : (lg_sl as).length ≤ nL) (h4 : xhead (xByt G).length kind ci as h = true) (hp : pc + 3 = pc')
    (hc : xT G sc d N 0 (lv_args 0 as) [] h (fun r => r = (none, h', a, b))) (k : xT G sc (d + 1) M pc' L rest h' (fun r2 => Q (r2.1, r2.2.1, a + r2.2.2.1, b + r2.2.2.2))) : xT G sc (d + 1) M pc L st h Q := by
  subst hp
  refine tCall hi hs hl hk ha hr h1 h2 (by rw [hm]; exact h3) h4 (tPost hc ?_)
  rintro r rfl
  exact k
theorem wCallR (pc' : Nat) {i : Instr} {kind N k0 ci nL : Nat} {rt : Option FieldType} (as rest : List Value) {v : Value} {h' : xH} {a b : Nat} (hi : xIns G M pc = some i) (hs : xsort i = 9) (hl : xlink (xMth G M) i = some (kind, N, k0, ci)) (hk : kind = 0 ∨ kind = 1 ∨ kind = 4 ∨ kind = 5) (hm : (xMet G N).2.2 = (nL, rt)) (ha : (st.take k0).reverse = as) (hr : st.drop k0 = rest) (h1 : k0 ≤ st.length) (h2 : (rest.map (fun v => v.category)).sum ≤ 8) (h3 : (lg_sl as).length ≤ nL) (h4 : xhead (xByt G).length kind ci as h = true) (hp : pc + 3 = pc')
    (hc : xT G sc d N 0 (lv_args 0 as) [] h (fun r => r = (some v, h', a, b))) (k : xT G sc (d + 1) M pc' L (v :: rest) h' (fun r2 => Q (r2.1, r2.2.1, a + r2.2.2.1, b + r2.2.2.2))) : xT G sc (d + 1) M pc L st h Q := by
  subst hp
  refine tCall hi hs hl hk ha hr h1 h2 (by rw [hm]; exact h3) h4 (tPost hc ?_)
  rintro r rfl
  exact k
/-- the same, where nothing is made -/
theorem wCallV0 (pc' : Nat) {i : Instr} {kind N k0 ci nL : Nat} {rt : Option FieldType} (as rest : List Value) {h' : xH} (hi : xIns G M pc = some i) (hs : xsort i = 9) (hl : xlink (xMth G M) i = some (kind, N, k0, ci)) (hk : kind = 0 ∨ kind = 1 ∨ kind = 4 ∨ kind = 5) (hm : (xMet G N).2.2 = (nL, rt)) (ha : (st.take k0).reverse = as) (hr : st.drop k0 = rest) (h1 : k0 ≤ st.length) (h2 : (rest.map (fun v => v.category)).sum ≤ 8) (h3 : (lg_sl as).length ≤ nL) (h4 : xhead (xByt G).length kind ci as h = true) (hp : pc + 3 = pc')
    (hc : xT G sc d N 0 (lv_args 0 as) [] h (fun r => r = (none, h', 0, 0))) (k : xT G sc (d + 1) M pc' L rest h' Q) : xT G sc (d + 1) M pc L st h Q :=
  wCallV pc' as rest hi hs hl hk hm ha hr h1 h2 h3 h4 hp hc (tPost k (fun r hq => by simpa using hq))
theorem wCallR0 (pc' : Nat) {i : Instr} {kind N k0 ci nL : Nat} {rt : Option FieldType} (as rest : List Value) {v : Value} {h' : xH} (hi : xIns G M pc = some i) (hs : xsort i = 9) (hl : xlink (xMth G M) i = some (kind, N, k0, ci)) (hk : kind = 0 ∨ kind = 1 ∨ kind = 4 ∨ kind = 5) (hm : (xMet G N).2.2 = (nL, rt)) (ha : (st.take k0).reverse = as) (hr : st.drop k0 = rest) (h1 : k0 ≤ st.length) (h2 : (rest.map (fun v => v.category)).sum ≤ 8) (h3 : (lg_sl as).length ≤ nL) (h4 : xhead (xByt G).length kind ci as h = true) (hp : pc + 3 = pc')
    (hc : xT G sc d N 0 (lv_args 0 as) [] h (fun r => r = (some v, h', 0, 0))) (k : xT G sc (d + 1) M pc' L (v :: rest) h' Q) : xT G sc (d + 1) M pc L st h Q :=
  wCallR pc' as rest hi hs hl hk hm ha hr h1 h2 h3 h4 hp hc (tPost k (fun r hq => by simpa using hq))
end XRV
theorem xset_self {h : xH} {a : Nat} {c : xE} (hc : h[a]? = some c) : h.set a c = h := by
  apply List.ext_getElem?
  intro i
  by_cases hi : i = a
  · subst hi
    rw [List.getElem?_set_self (List.getElem?_eq_some_iff.mp hc).1, hc]
  · rw [List.getElem?_set_ne (Ne.symm hi)]
theorem xset_get {h : xH} {a : Nat} {c c' : xE} (hc : h[a]? = some c) : (h.set a c')[a]? = some c' := List.getElem?_set_self (List.getElem?_eq_some_iff.mp hc).1
theorem xset_ne {h : xH} {a b : Nat} {c' : xE} (hab : a ≠ b) : (h.set a c')[b]? = h[b]? := List.getElem?_set_ne hab
/-- a place in a row, known as a number -/
theorem xinb {n N : Nat} (h : n < N) (hN : N < 2 ^ 31) : ¬ (nI n < 0 ∨ N ≤ (nI n).toNatClampNeg) := nI_in h hN
theorem xinb2 {j : Int32} {N : Nat} (M : Int32) (h1 : ¬ j < 0) (h2 : ¬ M ≤ j) (hM : M.toInt = N) : ¬ (j < 0 ∨ N ≤ j.toNatClampNeg) := by
  rintro (z | z)
  · exact h1 z
  · apply h2
    rw [Int32.le_iff_toInt_le, hM]
    have h3 : ¬ j.toInt < 0 := fun q => h1 (by rw [Int32.lt_iff_toInt_lt]; simpa using q)
    have h4 : j.toNatClampNeg = j.toInt.toNat := rfl
    omega
section XRE
variable {G : xG} {sc : xS} {d M pc : Nat} {L : xL} {st : List Value} {h : xH} {v : Option Value} {hz : xH}
/-- rules for a run that is known whole: what is still to come is counted down -/
theorem eNew {k0 ci n N : Nat} (a b a' b' : Nat) (hi : xIns G M pc = some (.new k0)) (hc : xCls G M k0 = some ci) (hn : h.length = n) (hN : (xDfl G ci).length = N) (ha : 1 + a' = a) (hb : N + b' = b) (k : xT G sc d M (pc + 3) L (.ref n :: st) (h ++ [.inr (ci, xDfl G ci)]) (fun r => r = (v, hz, a', b'))) : xT G sc d M pc L st h (fun r => r = (v, hz, a, b)) := by
  subst ha; subst hb; subst hN
  exact tNew hi hc hn (tPost k (by rintro r rfl; rfl))
theorem eNewA {t : ArrayType} {k0 : Int32} {n N : Nat} {c : xE} (a b a' b' : Nat) (hi : xIns G M pc = some (.newarray t)) (hk : ¬ (k0 < 0 ∨ 1000000 < k0.toNatClampNeg)) (hN : k0.toNatClampNeg = N) (hc : xnew t N = some c) (hn : h.length = n) (ha : 1 + a' = a) (hb : N + b' = b) (k : xT G sc d M (pc + 2) L (.ref n :: st) (h ++ [c]) (fun r => r = (v, hz, a', b'))) : xT G sc d M pc L (.int k0 :: st) h (fun r => r = (v, hz, a, b)) := by
  subst ha; subst hb
  exact tNewA hi hk hN hc hn (tPost k (by rintro r rfl; rfl))
theorem eCallV (pc' : Nat) {i : Instr} {kind N k0 ci nL : Nat} {rt : Option FieldType} (as rest : List Value) {h' : xH} {a0 b0 : Nat} (a b a' b' : Nat) (hi : xIns G M pc = some i) (hs : xsort i = 9) (hl : xlink (xMth G M) i = some (kind, N, k0, ci)) (hk : kind = 0 ∨ kind = 1 ∨ kind = 4 ∨ kind = 5) (hm : (xMet G N).2.2 = (nL, rt)) (ha : (st.take k0).reverse = as) (hr : st.drop k0 = rest) (h1 : k0 ≤ st.length) (h2 : (rest.map (fun v => v.category)).sum ≤ 8) (h3 : (lg_sl as).length ≤ nL) (h4 : xhead (xByt G).length kind ci as h = true) (hp : pc + 3 = pc')
    (hc : xT G sc d N 0 (lv_args 0 as) [] h (fun r => r = (none, h', a0, b0))) (hca : a0 + a' = a) (hcb : b0 + b' = b) (k : xT G sc (d + 1) M pc' L rest h' (fun r => r = (v, hz, a', b'))) : xT G sc (d + 1) M pc L st h (fun r => r = (v, hz, a, b)) := by
  subst hca; subst hcb
  exact wCallV pc' as rest hi hs hl hk hm ha hr h1 h2 h3 h4 hp hc (tPost k (by rintro r rfl; rfl))
end XRE
section XRC
variable {G : xG} {sc : xS} {d D M pc : Nat} {L : xL} {st : List Value} {h : xH} {Q : xR → Prop}
/-- what is left to do in the caller, behind a callee that makes nothing -/
def xK (G : xG) (sc : xS) (D M pc : Nat) (L : xL) (rest : List Value) (Q : xR → Prop) : xR → Prop := fun r => r.2.2 = (0, 0) ∧ xT G sc D M pc L (r.1.toList ++ rest) r.2.1 Q
/-- a call, walked into -/
theorem jCall (pc' : Nat) {i : Instr} {kind N k0 ci nL : Nat} {rt : Option FieldType} (as rest : List Value) (L0 : xL) (hi : xIns G M pc = some i) (hs : xsort i = 9) (hl : xlink (xMth G M) i = some (kind, N, k0, ci)) (hk : kind = 0 ∨ kind = 1 ∨ kind = 4 ∨ kind = 5) (hm : (xMet G N).2.2 = (nL, rt)) (ha : (st.take k0).reverse = as) (hr : st.drop k0 = rest) (h1 : k0 ≤ st.length) (h2 : (rest.map (fun v => v.category)).sum ≤ 8) (h3 : (lg_sl as).length ≤ nL) (h4 : xhead (xByt G).length kind ci as h = true) (hp : pc + 3 = pc') (hL : lv_args 0 as = L0)
    (k : xT G sc d N 0 L0 [] h (xK G sc (d + 1) M pc' L rest Q)) : xT G sc (d + 1) M pc L st h Q := by
  subst hp
  subst hL
  refine tCall hi hs hl hk ha hr h1 h2 (by rw [hm]; exact h3) h4 (tPost k ?_)
  rintro ⟨v, h', a, b⟩ ⟨e1, e2⟩
  cases e1
  exact tPost e2 (fun r hq => by simpa using hq)
theorem jRi {nL : Nat} {ty : FieldType} {x : Int32} {M' pc' : Nat} {L' : xL} {rest : List Value} (hi : xIns G M pc = some .ireturn) (hm : (xMet G M).2.2 = (nL, some ty)) (hn : narrow ty (.int x) = .int x) (k : xT G sc D M' pc' L' (.int x :: rest) h Q) : xT G sc d M pc L [.int x] h (xK G sc D M' pc' L' rest Q) := wRi hi hm hn ⟨rfl, k⟩
theorem jRl {nL : Nat} {x : Int64} {M' pc' : Nat} {L' : xL} {rest : List Value} (hi : xIns G M pc = some .lreturn) (hm : (xMet G M).2.2 = (nL, some .long)) (k : xT G sc D M' pc' L' (.long x :: rest) h Q) : xT G sc d M pc L [.long x] h (xK G sc D M' pc' L' rest Q) := wRl hi hm ⟨rfl, k⟩
theorem jR0 {nL : Nat} {M' pc' : Nat} {L' : xL} {rest : List Value} (hi : xIns G M pc = some .return_) (hm : (xMet G M).2.2 = (nL, none)) (k : xT G sc D M' pc' L' rest h Q) : xT G sc d M pc L [] h (xK G sc D M' pc' L' rest Q) := wR0 hi hm ⟨rfl, k⟩
/-- a known run of a callee that makes nothing, as a predicate -/
theorem jUse (pc' : Nat) {i : Instr} {kind N k0 ci nL : Nat} {rt : Option FieldType} (as rest : List Value) (L0 : xL) {Q' : xR → Prop} (hi : xIns G M pc = some i) (hs : xsort i = 9) (hl : xlink (xMth G M) i = some (kind, N, k0, ci)) (hk : kind = 0 ∨ kind = 1 ∨ kind = 4 ∨ kind = 5) (hm : (xMet G N).2.2 = (nL, rt)) (ha : (st.take k0).reverse = as) (hr : st.drop k0 = rest) (h1 : k0 ≤ st.length) (h2 : (rest.map (fun v => v.category)).sum ≤ 8) (h3 : (lg_sl as).length ≤ nL) (h4 : xhead (xByt G).length kind ci as h = true) (hp : pc + 3 = pc') (hL : lv_args 0 as = L0)
    (hc : xT G sc d N 0 L0 [] h Q') (k : ∀ r, Q' r → r.2.2 = (0, 0) ∧ xT G sc (d + 1) M pc' L (r.1.toList ++ rest) r.2.1 Q) : xT G sc (d + 1) M pc L st h Q := jCall pc' as rest L0 hi hs hl hk hm ha hr h1 h2 h3 h4 hp hL (tPost hc k)
/-- nothing is copied -/
theorem wCopy0i {k0 N na ci : Nat} (pc' : Nat) {dp sp : Int32} {a1 a0 n0 n1 : Nat} {f g : Nat → Int32} (hi : xIns G M pc = some (.invokestatic k0)) (hl : xMth G M k0 = some (7, N, na, ci)) (h0 : h[a0]? = some (.inl (.int, n0, .inl f))) (h1 : h[a1]? = some (.inl (.int, n1, .inl g))) (hd : ¬ dp < 0) (hs : ¬ sp < 0) (h2 : sp.toNatClampNeg ≤ n0) (h3 : dp.toNatClampNeg ≤ n1) (h4 : (st.map (fun v => v.category)).sum ≤ 8) (hp : pc + 3 = pc') (k : xT G sc (d + 1) M pc' L st h Q) : xT G sc (d + 1) M pc L (.int 0 :: .int dp :: .ref a1 :: .int sp :: .ref a0 :: st) h Q := by
  subst hp
  have hno : ¬ ((0 : Int32) < 0 ∨ dp < 0 ∨ sp < 0 ∨ 8 < (st.map (fun v => v.category)).sum) := by
    rintro (z | z | z | z)
    · exact absurd z (by decide)
    · exact hd z
    · exact hs z
    · omega
  have hz : (0 : Int32).toNatClampNeg = 0 := rfl
  have hg : va_cpy f g sp.toNatClampNeg dp.toNatClampNeg 0 = g := by
    funext j
    exact pk_cpy_out (by omega)
  refine tCopy hi hl (st' := st) (h' := h) ?_ k
  simp only [xcopy, hno, if_false, h0, h1, hz, Nat.add_zero]
  rw [if_pos ⟨h2, h3⟩, hg, xset_self h1]
theorem wCopy0l {k0 N na ci : Nat} (pc' : Nat) {dp sp : Int32} {a1 a0 n0 n1 : Nat} {f g : Nat → Int64} (hi : xIns G M pc = some (.invokestatic k0)) (hl : xMth G M k0 = some (7, N, na, ci)) (h0 : h[a0]? = some (.inl (.long, n0, .inr (.inl f)))) (h1 : h[a1]? = some (.inl (.long, n1, .inr (.inl g)))) (hd : ¬ dp < 0) (hs : ¬ sp < 0) (h2 : sp.toNatClampNeg ≤ n0) (h3 : dp.toNatClampNeg ≤ n1) (h4 : (st.map (fun v => v.category)).sum ≤ 8) (hp : pc + 3 = pc') (k : xT G sc (d + 1) M pc' L st h Q) : xT G sc (d + 1) M pc L (.int 0 :: .int dp :: .ref a1 :: .int sp :: .ref a0 :: st) h Q := by
  subst hp
  have hno : ¬ ((0 : Int32) < 0 ∨ dp < 0 ∨ sp < 0 ∨ 8 < (st.map (fun v => v.category)).sum) := by
    rintro (z | z | z | z)
    · exact absurd z (by decide)
    · exact hd z
    · exact hs z
    · omega
  have hz : (0 : Int32).toNatClampNeg = 0 := rfl
  have hg : va_cpy f g sp.toNatClampNeg dp.toNatClampNeg 0 = g := by
    funext j
    exact pk_cpy_out (by omega)
  refine tCopy hi hl (st' := st) (h' := h) ?_ k
  simp only [xcopy, hno, if_false, h0, h1, hz, Nat.add_zero]
  rw [if_pos ⟨h2, h3⟩, hg, xset_self h1]
/-- a table's switch at a known number -/
theorem wSw (pc' : Nat) {dd lo hi0 : Int} {offs : Array Int} {x : Int32} (hi : xIns G M pc = some (.tableswitch dd lo hi0 offs)) (h1 : xs3 pc (.tableswitch dd lo hi0 offs) (.int x :: st) = some (pc', st)) (k : xT G sc d M pc' L st h Q) : xT G sc d M pc L (.int x :: st) h Q := tS3 hi rfl h1 k
theorem wSwD (pc' : Nat) {dd lo hi0 : Int} {offs : Array Int} {x : Int32} (hi : xIns G M pc = some (.tableswitch dd lo hi0 offs)) (hx : x.toInt < lo ∨ hi0 < x.toInt) (hj : xjmp pc dd = some pc') (k : xT G sc d M pc' L st h Q) : xT G sc d M pc L (.int x :: st) h Q := tS3 hi rfl (by simp only [xs3, if_pos hx, hj, Option.map_some]) k
end XRC
theorem wl_lt {a l : Int32} {N : Int64} (hl : l.toInt64 = N) (h : a < l) : lg_cmp a.toInt64 N < 0 := by
  subst hl
  have h1 : a.toInt64 < l.toInt64 := by
    rw [Int64.lt_iff_toInt_lt, Int32.toInt_toInt64, Int32.toInt_toInt64, ← Int32.lt_iff_toInt_lt]; exact h
  have h2 : ¬ a.toInt64 > l.toInt64 := fun z => absurd (Int64.lt_iff_toInt_lt.mp z) (by have := Int64.lt_iff_toInt_lt.mp h1; omega)
  have h3 : ¬ a.toInt64 = l.toInt64 := fun z => by rw [z] at h1; exact absurd (Int64.lt_iff_toInt_lt.mp h1) (by omega)
  unfold lg_cmp
  rw [if_neg h2, if_neg h3]
  decide
theorem wl_nlt {a l : Int32} {N : Int64} (hl : l.toInt64 = N) (h : ¬ a < l) : ¬ lg_cmp a.toInt64 N < 0 := by
  subst hl
  have h1 : l.toInt64 ≤ a.toInt64 := by
    rw [Int64.le_iff_toInt_le, Int32.toInt_toInt64, Int32.toInt_toInt64]
    have : ¬ a.toInt < l.toInt := fun z => h (Int32.lt_iff_toInt_lt.mpr z)
    omega
  unfold lg_cmp
  split
  · decide
  · split
    · decide
    · rename_i h2 h3
      exact absurd (show a.toInt64 = l.toInt64 from Int64.toInt_inj.mp (by have := Int64.le_iff_toInt_le.mp h1; have h4 : ¬ l.toInt64.toInt < a.toInt64.toInt := fun z => h2 (Int64.lt_iff_toInt_lt.mpr z); omega)) h3
theorem wl_gt {a l : Int32} {N : Int64} (hl : l.toInt64 = N) (h : l < a) : 0 < lg_cmp a.toInt64 N := by
  subst hl
  have h1 : l.toInt64 < a.toInt64 := by
    rw [Int64.lt_iff_toInt_lt, Int32.toInt_toInt64, Int32.toInt_toInt64, ← Int32.lt_iff_toInt_lt]; exact h
  unfold lg_cmp
  rw [if_pos h1]
  decide
theorem wl_ngt {a l : Int32} {N : Int64} (hl : l.toInt64 = N) (h : ¬ l < a) : ¬ 0 < lg_cmp a.toInt64 N := by
  subst hl
  have h1 : ¬ a.toInt64 > l.toInt64 := fun z => h (by
    have z : l.toInt64 < a.toInt64 := z
    rw [Int64.lt_iff_toInt_lt, Int32.toInt_toInt64, Int32.toInt_toInt64, ← Int32.lt_iff_toInt_lt] at z; exact z)
  unfold lg_cmp
  rw [if_neg h1]
  split <;> decide
