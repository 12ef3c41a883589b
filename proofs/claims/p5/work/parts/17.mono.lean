section XMO
variable {G : xG} {sc : xS}
set_option maxHeartbeats 4000000 in
/-- more fuel, the same run -/
theorem xev_mono : ∀ (n d M pc : Nat) (L : xL) (st : List Value) (h : xH) (r : xR), xev G sc n d M pc L st h = some r → xev G sc (n + 1) d M pc L st h = some r := by
  intro n
  induction n with
  | zero =>
    intro d M pc L st h r hr
    cases hr
  | succ n ih =>
    intro d M pc L st h r hr
    rw [xev] at hr
    rw [xev]
    split at hr
    · cases hr
    · rename_i i hi
      split at hr
      · rename_i hs
        split at hr
        · rename_i st' q
          try simp only [hs, q]
          exact ih _ _ _ _ _ _ _ hr
        · cases hr
      · rename_i hs
        split at hr
        · rename_i st' q
          try simp only [hs, q]
          exact ih _ _ _ _ _ _ _ hr
        · cases hr
      · rename_i hs
        split at hr
        · rename_i L' st' q
          try simp only [hs, q]
          exact ih _ _ _ _ _ _ _ hr
        · cases hr
      · rename_i hs
        split at hr
        · rename_i pc' st' q
          try simp only [hs, q]
          exact ih _ _ _ _ _ _ _ hr
        · cases hr
      · rename_i hs
        split at hr
        · rename_i st' h' q
          try simp only [hs, q]
          exact ih _ _ _ _ _ _ _ hr
        · cases hr
      · rename_i hs
        try simp only [hs]
        exact hr
      · rename_i hs
        try simp only [hs]
        split at hr
        · split at hr
          · rename_i ci q
            obtain ⟨v, h', a1, a2, e1, rfl⟩ := xadd_some hr
            try simp only [q, ih _ _ _ _ _ _ _ e1]
            rfl
          · cases hr
        · cases hr
      · rename_i hs
        try simp only [hs]
        split at hr
        · split at hr
          · cases hr
          · rename_i q0
            split at hr
            · rename_i c0 qn
              obtain ⟨v, h', a1, a2, e1, rfl⟩ := xadd_some hr
              try simp only [q0, if_false, qn, ih _ _ _ _ _ _ _ e1]
              rfl
            · cases hr
        · cases hr
      · rename_i hs
        try simp only [hs]
        split at hr
        · rename_i d' kind N k ci qk
          try simp only [qk]
          split at hr
          · split at hr
            · split at hr
              · cases hr
              · rename_i q8
                try simp only [q8, if_false]
                exact ih _ _ _ _ _ _ _ hr
            · cases hr
          · split at hr
            · rename_i st' h' q
              try simp only [q]
              exact ih _ _ _ _ _ _ _ hr
            · cases hr
          · split at hr
            · split at hr
              · cases hr
              · rename_i q8
                try simp only [q8, if_false]
                exact ih _ _ _ _ _ _ _ hr
            · cases hr
          · split at hr
            · split at hr
              · cases hr
              · rename_i q8
                try simp only [q8, if_false]
                exact ih _ _ _ _ _ _ _ hr
            · cases hr
          · split at hr
            · cases hr
            · rename_i q0
              split at hr
              · rename_i v h' a1 a2 qe
                obtain ⟨v2, h2, b1, b2, e2, rfl⟩ := xadd_some hr
                try simp only [q0, if_false, ih _ _ _ _ _ _ _ qe, ih _ _ _ _ _ _ _ e2]
                rfl
              · cases hr
        · cases hr
      · cases hr
theorem xev_le {n k d M pc : Nat} {L : xL} {st : List Value} {h : xH} {r : xR} (hr : xev G sc n d M pc L st h = some r) (hk : n ≤ k) : xev G sc k d M pc L st h = some r := by
  induction k with
  | zero => rw [Nat.le_zero.mp hk] at hr; exact hr
  | succ k ih =>
    rcases Nat.lt_or_ge n (k + 1) with z | z
    · exact xev_mono _ _ _ _ _ _ _ _ (ih (by omega))
    · rw [show k + 1 = n by omega]; exact hr
end XMO
/-- there is a run from here, and what it leaves is so -/
def xT (G : xG) (sc : xS) (d M pc : Nat) (L : xL) (st : List Value) (h : xH) (Q : xR → Prop) : Prop := ∃ n r, xev G sc n d M pc L st h = some r ∧ Q r
section XTR
variable {G : xG} {sc : xS} {d M pc : Nat} {L : xL} {st : List Value} {h : xH} {Q : xR → Prop}
theorem tPost {Q' : xR → Prop} (k : xT G sc d M pc L st h Q') (hq : ∀ r, Q' r → Q r) : xT G sc d M pc L st h Q := by
  obtain ⟨n, r, h1, h2⟩ := k
  exact ⟨n, r, h1, hq r h2⟩
theorem tS1 {i : Instr} (hi : xIns G M pc = some i) (hs : xsort i = 1) {st' : List Value} (h1 : xs1 i st = some st') (k : xT G sc d M (pc + 1) L st' h Q) : xT G sc d M pc L st h Q := by
  obtain ⟨n, r, k1, k2⟩ := k
  exact ⟨n + 1, r, by rw [xev]; simp only [hi, hs, h1]; exact k1, k2⟩
theorem tS1d {i : Instr} (hi : xIns G M pc = some i) (hs : xsort i = 2) {st' : List Value} (h1 : xs1d i st = some st') (k : xT G sc d M (pc + 1) L st' h Q) : xT G sc d M pc L st h Q := by
  obtain ⟨n, r, k1, k2⟩ := k
  exact ⟨n + 1, r, by rw [xev]; simp only [hi, hs, h1]; exact k1, k2⟩
theorem tS2 {i : Instr} (hi : xIns G M pc = some i) (hs : xsort i = 3) {L' : xL} {st' : List Value} (h1 : xs2 (xCon G M) (xStr G M) (xMet G M).2.2.1 i L st = some (L', st')) {pc' : Nat} (hp : pc + xlen i = pc') (k : xT G sc d M pc' L' st' h Q) : xT G sc d M pc L st h Q := by
  obtain ⟨n, r, k1, k2⟩ := k
  subst hp
  exact ⟨n + 1, r, by rw [xev]; simp only [hi, hs, h1]; exact k1, k2⟩
theorem tS3 {i : Instr} (hi : xIns G M pc = some i) (hs : xsort i = 4) {pc' : Nat} {st' : List Value} (h1 : xs3 pc i st = some (pc', st')) (k : xT G sc d M pc' L st' h Q) : xT G sc d M pc L st h Q := by
  obtain ⟨n, r, k1, k2⟩ := k
  exact ⟨n + 1, r, by rw [xev]; simp only [hi, hs, h1]; exact k1, k2⟩
theorem tS4 {i : Instr} (hi : xIns G M pc = some i) (hs : xsort i = 5) {st' : List Value} {h' : xH} (h1 : xs4 (xFld G M) (xPut G M) (xExf G M) (xSta G M) (xByt G) sc i st h = some (st', h')) {pc' : Nat} (hp : pc + xlen i = pc') (k : xT G sc d M pc' L st' h' Q) : xT G sc d M pc L st h Q := by
  obtain ⟨n, r, k1, k2⟩ := k
  subst hp
  exact ⟨n + 1, r, by rw [xev]; simp only [hi, hs, h1]; exact k1, k2⟩
theorem tR0 {i : Instr} (hi : xIns G M pc = some i) (hs : xsort i = 6) (h1 : xret i (xMet G M).2.2.2 none = true) (k : Q (none, h, 0, 0)) : xT G sc d M pc L [] h Q :=
  ⟨1, _, by rw [xev]; simp only [hi, hs, h1, if_true], k⟩
theorem tR1 {i : Instr} (hi : xIns G M pc = some i) (hs : xsort i = 6) {v : Value} (h1 : xret i (xMet G M).2.2.2 (some v) = true) (k : Q (some v, h, 0, 0)) : xT G sc d M pc L [v] h Q :=
  ⟨1, _, by rw [xev]; simp only [hi, hs, h1, if_true], k⟩
/-- an if: both ways -/
theorem tIf0 {q : ClassFile.Cond} {off : Int} {t : Nat} {x : Int32} (hi : xIns G M pc = some (.ifCond q off)) (hj : xjmp pc off = some t) (kt : xcond q x 0 = true → xT G sc d M t L st h Q) (kf : xcond q x 0 = false → xT G sc d M (pc + 3) L st h Q) : xT G sc d M pc L (.int x :: st) h Q := by
  cases hc : xcond q x 0 with
  | true => exact tS3 hi rfl (by simp only [xs3, hj, hc, if_true]) (kt hc)
  | false => exact tS3 hi rfl (by simp only [xs3, hj, hc, Bool.false_eq_true, if_false]) (kf hc)
theorem tIf2 {q : ClassFile.Cond} {off : Int} {t : Nat} {x y : Int32} (hi : xIns G M pc = some (.if_icmp q off)) (hj : xjmp pc off = some t) (kt : xcond q x y = true → xT G sc d M t L st h Q) (kf : xcond q x y = false → xT G sc d M (pc + 3) L st h Q) : xT G sc d M pc L (.int y :: .int x :: st) h Q := by
  cases hc : xcond q x y with
  | true => exact tS3 hi rfl (by simp only [xs3, hj, hc, if_true]) (kt hc)
  | false => exact tS3 hi rfl (by simp only [xs3, hj, hc, Bool.false_eq_true, if_false]) (kf hc)
theorem tIf0T {q : ClassFile.Cond} {off : Int} {t : Nat} {x : Int32} (hi : xIns G M pc = some (.ifCond q off)) (hj : xjmp pc off = some t) (hc : xcond q x 0 = true) (kt : xT G sc d M t L st h Q) : xT G sc d M pc L (.int x :: st) h Q := tS3 hi rfl (by simp only [xs3, hj, hc, if_true]) kt
theorem tIf0F {q : ClassFile.Cond} {off : Int} {t : Nat} {x : Int32} (hi : xIns G M pc = some (.ifCond q off)) (hj : xjmp pc off = some t) (hc : xcond q x 0 = false) (kt : xT G sc d M (pc + 3) L st h Q) : xT G sc d M pc L (.int x :: st) h Q := tS3 hi rfl (by simp only [xs3, hj, hc, Bool.false_eq_true, if_false]) kt
theorem tIf2T {q : ClassFile.Cond} {off : Int} {t : Nat} {x y : Int32} (hi : xIns G M pc = some (.if_icmp q off)) (hj : xjmp pc off = some t) (hc : xcond q x y = true) (kt : xT G sc d M t L st h Q) : xT G sc d M pc L (.int y :: .int x :: st) h Q := tS3 hi rfl (by simp only [xs3, hj, hc, if_true]) kt
theorem tIf2F {q : ClassFile.Cond} {off : Int} {t : Nat} {x y : Int32} (hi : xIns G M pc = some (.if_icmp q off)) (hj : xjmp pc off = some t) (hc : xcond q x y = false) (kt : xT G sc d M (pc + 3) L st h Q) : xT G sc d M pc L (.int y :: .int x :: st) h Q := tS3 hi rfl (by simp only [xs3, hj, hc, Bool.false_eq_true, if_false]) kt
theorem tGo {off : Int} {t : Nat} (hi : xIns G M pc = some (.goto off)) (hj : xjmp pc off = some t) (k : xT G sc d M t L st h Q) : xT G sc d M pc L st h Q := tS3 hi rfl (by simp only [xs3, hj, Option.map_some]) k
theorem tNew {k0 ci : Nat} {n : Nat} (hi : xIns G M pc = some (.new k0)) (hc : xCls G M k0 = some ci) (hn : h.length = n) (k : xT G sc d M (pc + 3) L (.ref n :: st) (h ++ [.inr (ci, xDfl G ci)]) (fun r => Q (r.1, r.2.1, 1 + r.2.2.1, (xDfl G ci).length + r.2.2.2))) : xT G sc d M pc L st h Q := by
  obtain ⟨n', ⟨v, h', a, b⟩, k1, k2⟩ := k
  subst hn
  exact ⟨n' + 1, _, by rw [xev]; simp only [hi, xsort, hc, k1, xadd], k2⟩
theorem tNewA {t : ArrayType} {k0 : Int32} {n N : Nat} {c : xE} (hi : xIns G M pc = some (.newarray t)) (hk : ¬ (k0 < 0 ∨ 1000000 < k0.toNatClampNeg)) (hN : k0.toNatClampNeg = N) (hc : xnew t N = some c) (hn : h.length = n) (k : xT G sc d M (pc + 2) L (.ref n :: st) (h ++ [c]) (fun r => Q (r.1, r.2.1, 1 + r.2.2.1, N + r.2.2.2))) : xT G sc d M pc L (.int k0 :: st) h Q := by
  obtain ⟨n', ⟨v, h', a, b⟩, k1, k2⟩ := k
  subst hn
  subst hN
  exact ⟨n' + 1, _, by rw [xev]; simp only [hi, xsort, hk, if_false, hc, k1, xadd], k2⟩
/-- a call: the callee's run, then the rest -/
theorem tCall {i : Instr} {kind N k0 ci : Nat} {as rest : List Value} (hi : xIns G M pc = some i) (hs : xsort i = 9) (hl : xlink (xMth G M) i = some (kind, N, k0, ci)) (hk : kind = 0 ∨ kind = 1 ∨ kind = 4 ∨ kind = 5) (ha : (st.take k0).reverse = as) (hr : st.drop k0 = rest) (h1 : k0 ≤ st.length) (h2 : (rest.map (fun v => v.category)).sum ≤ 8) (h3 : (lg_sl as).length ≤ (xMet G N).2.2.1) (h4 : xhead (xByt G).length kind ci as h = true)
    (k : xT G sc d N 0 (lv_args 0 as) [] h (fun r => xT G sc (d + 1) M (pc + 3) L (r.1.toList ++ rest) r.2.1 (fun r2 => Q (r2.1, r2.2.1, r.2.2.1 + r2.2.2.1, r.2.2.2 + r2.2.2.2)))) : xT G sc (d + 1) M pc L st h Q := by
  obtain ⟨n1, ⟨v, h', a, b⟩, k1, n2, ⟨v2, h2', a2, b2⟩, k2, k3⟩ := k
  subst ha
  subst hr
  have e1 := xev_le k1 (Nat.le_max_left n1 n2)
  have e2 := xev_le k2 (Nat.le_max_right n1 n2)
  have hno : ¬ (st.length < k0 ∨ 8 < ((st.drop k0).map (fun v => v.category)).sum ∨ (xMet G N).2.2.1 < (lg_sl (st.take k0).reverse).length ∨ xhead (xByt G).length kind ci (st.take k0).reverse h = false) := by
    rintro (z | z | z | z)
    · omega
    · omega
    · omega
    · rw [h4] at z; cases z
  refine ⟨max n1 n2 + 1, _, ?_, k3⟩
  rw [xev]
  simp only [hi, hs, hl]
  rcases hk with rfl | rfl | rfl | rfl <;> simp only [hno, if_false, e1, e2, xadd]
theorem tObj {k0 N na ci a : Nat} (hi : xIns G M pc = some (.invokespecial k0)) (hl : xMth G M k0 = some (6, N, na, ci)) (h2 : (st.map (fun v => v.category)).sum ≤ 8) (k : xT G sc (d + 1) M (pc + 3) L st h Q) : xT G sc (d + 1) M pc L (.ref a :: st) h Q := by
  obtain ⟨n, r, k1, k2⟩ := k
  have hno : ¬ 8 < (st.map (fun v => v.category)).sum := by omega
  exact ⟨n + 1, r, by rw [xev]; simp only [hi, xsort, xlink, hl, hno, if_false]; exact k1, k2⟩
theorem tCopy {k0 N na ci : Nat} (hi : xIns G M pc = some (.invokestatic k0)) (hl : xMth G M k0 = some (7, N, na, ci)) {st' : List Value} {h' : xH} (hc : xcopy st h = some (st', h')) (k : xT G sc (d + 1) M (pc + 3) L st' h' Q) : xT G sc (d + 1) M pc L st h Q := by
  obtain ⟨n, r, k1, k2⟩ := k
  exact ⟨n + 1, r, by rw [xev]; simp only [hi, xsort, xlink, hl, hc]; exact k1, k2⟩
theorem tMax {k0 N na ci : Nat} {x y : Int32} (hi : xIns G M pc = some (.invokestatic k0)) (hl : xMth G M k0 = some (8, N, na, ci)) (h2 : (st.map (fun v => v.category)).sum ≤ 8) (k : xT G sc (d + 1) M (pc + 3) L (.int (if x < y then y else x) :: st) h Q) : xT G sc (d + 1) M pc L (.int y :: .int x :: st) h Q := by
  obtain ⟨n, r, k1, k2⟩ := k
  have hno : ¬ 8 < (st.map (fun v => v.category)).sum := by omega
  exact ⟨n + 1, r, by rw [xev]; simp only [hi, xsort, xlink, hl, hno, if_false]; exact k1, k2⟩
theorem tMin {k0 N na ci : Nat} {x y : Int32} (hi : xIns G M pc = some (.invokestatic k0)) (hl : xMth G M k0 = some (9, N, na, ci)) (h2 : (st.map (fun v => v.category)).sum ≤ 8) (k : xT G sc (d + 1) M (pc + 3) L (.int (if y < x then y else x) :: st) h Q) : xT G sc (d + 1) M pc L (.int y :: .int x :: st) h Q := by
  obtain ⟨n, r, k1, k2⟩ := k
  have hno : ¬ 8 < (st.map (fun v => v.category)).sum := by omega
  exact ⟨n + 1, r, by rw [xev]; simp only [hi, xsort, xlink, hl, hno, if_false]; exact k1, k2⟩
theorem tTop {x v : Int32} (e : x = v) (k : xT G sc d M pc L (.int v :: st) h Q) : xT G sc d M pc L (.int x :: st) h Q := e ▸ k
theorem tTopL {x v : Int64} (e : x = v) (k : xT G sc d M pc L (.long v :: st) h Q) : xT G sc d M pc L (.long x :: st) h Q := e ▸ k
theorem tLoc {L' : xL} (e : L = L') (k : xT G sc d M pc L' st h Q) : xT G sc d M pc L st h Q := e ▸ k
theorem tHeap {h' : xH} (e : h = h') (k : xT G sc d M pc L st h' Q) : xT G sc d M pc L st h Q := e ▸ k
end XTR
