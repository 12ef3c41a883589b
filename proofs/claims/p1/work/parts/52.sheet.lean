theorem i36_17 : xIns xg 36 17 = some (.iload 4) := by decide +kernel
theorem i36_19 : xIns xg 36 19 = some (.iload_n 3) := by decide +kernel
theorem i36_20 : xIns xg 36 20 = some (.if_icmp .ge 22) := by decide +kernel
theorem i36_23 : xIns xg 36 23 = some (.aload_n 0) := by decide +kernel
theorem i36_24 : xIns xg 36 24 = some (.getfield 18) := by decide +kernel
theorem i36_27 : xIns xg 36 27 = some (.iload_n 1) := by decide +kernel
theorem i36_28 : xIns xg 36 28 = some (.bipush 40) := by decide +kernel
theorem i36_30 : xIns xg 36 30 = some (.imul) := by decide +kernel
theorem i36_31 : xIns xg 36 31 = some (.iload 4) := by decide +kernel
theorem i36_33 : xIns xg 36 33 = some (.iadd) := by decide +kernel
theorem i36_34 : xIns xg 36 34 = some (.lconst 0) := by decide +kernel
theorem i36_35 : xIns xg 36 35 = some (.lastore) := by decide +kernel
theorem i36_36 : xIns xg 36 36 = some (.iinc 4 1) := by decide +kernel
theorem i36_39 : xIns xg 36 39 = some (.goto (-22)) := by decide +kernel
theorem i36_42 : xIns xg 36 42 = some (.return_) := by decide +kernel
theorem m36 : (xMet xg 36).2.2 = (5, none) := by decide +kernel
theorem f36_18 : xFld xg 36 18 = some (2, 2) := by decide +kernel
theorem i183_77 : xIns xg 183 77 = some (.iload 4) := by decide +kernel
theorem i183_79 : xIns xg 183 79 = some (.iload_n 3) := by decide +kernel
theorem i183_80 : xIns xg 183 80 = some (.if_icmp .ge 26) := by decide +kernel
theorem i183_83 : xIns xg 183 83 = some (.iload_n 2) := by decide +kernel
theorem i183_84 : xIns xg 183 84 = some (.ifCond .lt 22) := by decide +kernel
theorem i183_87 : xIns xg 183 87 = some (.aload_n 0) := by decide +kernel
theorem i183_88 : xIns xg 183 88 = some (.getfield 172) := by decide +kernel
theorem i183_91 : xIns xg 183 91 = some (.bipush 40) := by decide +kernel
theorem i183_93 : xIns xg 183 93 = some (.iload_n 1) := by decide +kernel
theorem i183_94 : xIns xg 183 94 = some (.imul) := by decide +kernel
theorem i183_95 : xIns xg 183 95 = some (.iload 4) := by decide +kernel
theorem i183_97 : xIns xg 183 97 = some (.iadd) := by decide +kernel
theorem i183_98 : xIns xg 183 98 = some (.lconst 0) := by decide +kernel
theorem i183_99 : xIns xg 183 99 = some (.lastore) := by decide +kernel
theorem i183_100 : xIns xg 183 100 = some (.iinc 4 1) := by decide +kernel
theorem i183_103 : xIns xg 183 103 = some (.goto (-26)) := by decide +kernel
theorem i183_106 : xIns xg 183 106 = some (.iconst 1) := by decide +kernel
theorem m183 : (xMet xg 183).2.2 = (5, (some .int)) := by decide +kernel
theorem f183_172 : xFld xg 183 172 = some (7, 68) := by decide +kernel
theorem i111_0 : xIns xg 111 0 = some (.iload_n 1) := by decide +kernel
theorem i111_1 : xIns xg 111 1 = some (.invokestatic 215) := by decide +kernel
theorem l111_215 : xMth xg 111 215 = some (1, 97, 1, 0) := by decide +kernel
theorem i111_4 : xIns xg 111 4 = some (.ifCond .eq 13) := by decide +kernel
theorem i111_17 : xIns xg 111 17 = some (.bipush (-2)) := by decide +kernel
theorem i111_19 : xIns xg 111 19 = some (.ireturn) := by decide +kernel
theorem m111 : (xMet xg 111).2.2 = (4, (some .int)) := by decide +kernel
theorem i111_7 : xIns xg 111 7 = some (.iload_n 2) := by decide +kernel
theorem i111_8 : xIns xg 111 8 = some (.iconst (-1)) := by decide +kernel
theorem i111_9 : xIns xg 111 9 = some (.if_icmp .lt 8) := by decide +kernel
theorem i111_12 : xIns xg 111 12 = some (.iload_n 2) := by decide +kernel
theorem i111_13 : xIns xg 111 13 = some (.iconst 2) := by decide +kernel
theorem i111_14 : xIns xg 111 14 = some (.if_icmp .le 6) := by decide +kernel
theorem i111_20 : xIns xg 111 20 = some (.iload_n 2) := by decide +kernel
theorem i111_21 : xIns xg 111 21 = some (.iconst (-1)) := by decide +kernel
theorem i111_22 : xIns xg 111 22 = some (.if_icmp .ne 15) := by decide +kernel
theorem i111_25 : xIns xg 111 25 = some (.aload_n 0) := by decide +kernel
theorem i111_26 : xIns xg 111 26 = some (.getfield 54) := by decide +kernel
theorem f111_54 : xFld xg 111 54 = some (6, 6) := by decide +kernel
theorem i111_29 : xIns xg 111 29 = some (.iload_n 1) := by decide +kernel
theorem i111_30 : xIns xg 111 30 = some (.iconst (-1)) := by decide +kernel
theorem i111_31 : xIns xg 111 31 = some (.iconst 0) := by decide +kernel
theorem i111_32 : xIns xg 111 32 = some (.invokevirtual 222) := by decide +kernel
theorem l111_222 : xMth xg 111 222 = some (0, 36, 4, 2) := by decide +kernel
theorem i36_0 : xIns xg 36 0 = some (.aload_n 0) := by decide +kernel
theorem i36_1 : xIns xg 36 1 = some (.getfield 9) := by decide +kernel
theorem f36_9 : xFld xg 36 9 = some (2, 0) := by decide +kernel
theorem i36_4 : xIns xg 36 4 = some (.iload_n 1) := by decide +kernel
theorem i36_5 : xIns xg 36 5 = some (.iload_n 2) := by decide +kernel
theorem i36_6 : xIns xg 36 6 = some (.iastore) := by decide +kernel
theorem i36_7 : xIns xg 36 7 = some (.aload_n 0) := by decide +kernel
theorem i36_8 : xIns xg 36 8 = some (.getfield 15) := by decide +kernel
theorem f36_15 : xFld xg 36 15 = some (2, 1) := by decide +kernel
theorem i36_11 : xIns xg 36 11 = some (.iload_n 1) := by decide +kernel
theorem i36_12 : xIns xg 36 12 = some (.iload_n 3) := by decide +kernel
theorem i36_13 : xIns xg 36 13 = some (.iastore) := by decide +kernel
theorem i36_14 : xIns xg 36 14 = some (.iconst 0) := by decide +kernel
theorem i36_15 : xIns xg 36 15 = some (.istore 4) := by decide +kernel
theorem i111_35 : xIns xg 111 35 = some (.iconst 1) := by decide +kernel
theorem i111_36 : xIns xg 111 36 = some (.ireturn) := by decide +kernel
theorem i111_37 : xIns xg 111 37 = some (.iload_n 3) := by decide +kernel
theorem i111_38 : xIns xg 111 38 = some (.bipush 40) := by decide +kernel
theorem i111_40 : xIns xg 111 40 = some (.if_icmp .le 6) := by decide +kernel
theorem i111_46 : xIns xg 111 46 = some (.iload_n 3) := by decide +kernel
theorem i111_47 : xIns xg 111 47 = some (.ifCond .ge 6) := by decide +kernel
theorem i111_53 : xIns xg 111 53 = some (.aload_n 0) := by decide +kernel
theorem i111_54 : xIns xg 111 54 = some (.getfield 54) := by decide +kernel
theorem i111_57 : xIns xg 111 57 = some (.iload_n 1) := by decide +kernel
theorem i111_58 : xIns xg 111 58 = some (.iload_n 2) := by decide +kernel
theorem i111_59 : xIns xg 111 59 = some (.iload_n 3) := by decide +kernel
theorem i111_60 : xIns xg 111 60 = some (.invokevirtual 222) := by decide +kernel
theorem i111_63 : xIns xg 111 63 = some (.iconst 1) := by decide +kernel
theorem i111_64 : xIns xg 111 64 = some (.ireturn) := by decide +kernel
theorem i111_50 : xIns xg 111 50 = some (.bipush (-14)) := by decide +kernel
theorem i111_52 : xIns xg 111 52 = some (.ireturn) := by decide +kernel
theorem i111_43 : xIns xg 111 43 = some (.bipush (-2)) := by decide +kernel
theorem i111_45 : xIns xg 111 45 = some (.ireturn) := by decide +kernel
theorem i183_0 : xIns xg 183 0 = some (.iload_n 1) := by decide +kernel
theorem i183_1 : xIns xg 183 1 = some (.invokestatic 403) := by decide +kernel
theorem l183_403 : xMth xg 183 403 = some (1, 149, 1, 0) := by decide +kernel
theorem i183_4 : xIns xg 183 4 = some (.ifCond .eq 27) := by decide +kernel
theorem i183_31 : xIns xg 183 31 = some (.bipush (-2)) := by decide +kernel
theorem i183_33 : xIns xg 183 33 = some (.ireturn) := by decide +kernel
theorem i183_7 : xIns xg 183 7 = some (.iload_n 2) := by decide +kernel
theorem i183_8 : xIns xg 183 8 = some (.i2l) := by decide +kernel
theorem i183_9 : xIns xg 183 9 = some (.ldc2_w 427) := by decide +kernel
theorem c183_427 : xCon xg 183 427 = some (.long (-1)) := by decide +kernel
theorem i183_12 : xIns xg 183 12 = some (.ldc2_w 293) := by decide +kernel
theorem c183_293 : xCon xg 183 293 = some (.long (2)) := by decide +kernel
theorem i183_15 : xIns xg 183 15 = some (.invokestatic 177) := by decide +kernel
theorem l183_177 : xMth xg 183 177 = some (1, 142, 3, 0) := by decide +kernel
theorem i183_18 : xIns xg 183 18 = some (.ifCond .eq 13) := by decide +kernel
theorem i183_21 : xIns xg 183 21 = some (.iload_n 2) := by decide +kernel
theorem i183_22 : xIns xg 183 22 = some (.ifCond .lt 12) := by decide +kernel
theorem i183_34 : xIns xg 183 34 = some (.iload_n 2) := by decide +kernel
theorem i183_35 : xIns xg 183 35 = some (.ifCond .lt 10) := by decide +kernel
theorem i183_45 : xIns xg 183 45 = some (.aload_n 0) := by decide +kernel
theorem i183_46 : xIns xg 183 46 = some (.getfield 163) := by decide +kernel
theorem f183_163 : xFld xg 183 163 = some (7, 65) := by decide +kernel
theorem i183_49 : xIns xg 183 49 = some (.iload_n 1) := by decide +kernel
theorem i183_50 : xIns xg 183 50 = some (.iload_n 2) := by decide +kernel
theorem i183_51 : xIns xg 183 51 = some (.ifCond .lt 7) := by decide +kernel
theorem i183_58 : xIns xg 183 58 = some (.iconst 0) := by decide +kernel
theorem i183_59 : xIns xg 183 59 = some (.bastore) := by decide +kernel
theorem i183_60 : xIns xg 183 60 = some (.aload_n 0) := by decide +kernel
theorem i183_61 : xIns xg 183 61 = some (.getfield 166) := by decide +kernel
theorem f183_166 : xFld xg 183 166 = some (7, 66) := by decide +kernel
theorem i183_64 : xIns xg 183 64 = some (.iload_n 1) := by decide +kernel
theorem i183_65 : xIns xg 183 65 = some (.iload_n 2) := by decide +kernel
theorem i183_66 : xIns xg 183 66 = some (.iastore) := by decide +kernel
theorem i183_67 : xIns xg 183 67 = some (.aload_n 0) := by decide +kernel
theorem i183_68 : xIns xg 183 68 = some (.getfield 169) := by decide +kernel
theorem f183_169 : xFld xg 183 169 = some (7, 67) := by decide +kernel
theorem i183_71 : xIns xg 183 71 = some (.iload_n 1) := by decide +kernel
theorem i183_72 : xIns xg 183 72 = some (.iload_n 3) := by decide +kernel
theorem i183_73 : xIns xg 183 73 = some (.iastore) := by decide +kernel
theorem i183_74 : xIns xg 183 74 = some (.iconst 0) := by decide +kernel
theorem i183_75 : xIns xg 183 75 = some (.istore 4) := by decide +kernel
theorem i183_107 : xIns xg 183 107 = some (.ireturn) := by decide +kernel
theorem i183_25 : xIns xg 183 25 = some (.iload_n 3) := by decide +kernel
theorem i183_26 : xIns xg 183 26 = some (.bipush 40) := by decide +kernel
theorem i183_28 : xIns xg 183 28 = some (.if_icmp .le 6) := by decide +kernel
theorem i183_38 : xIns xg 183 38 = some (.iload_n 3) := by decide +kernel
theorem i183_39 : xIns xg 183 39 = some (.ifCond .ge 6) := by decide +kernel
theorem i183_54 : xIns xg 183 54 = some (.iconst 1) := by decide +kernel
theorem i183_55 : xIns xg 183 55 = some (.goto 4) := by decide +kernel
theorem i183_42 : xIns xg 183 42 = some (.bipush (-14)) := by decide +kernel
theorem i183_44 : xIns xg 183 44 = some (.ireturn) := by decide +kernel
theorem x_ib3 {a i : Nat} (ha : a < 4) (hi : i < 40) : ¬ (nI a * 40 + nI i < 0 ∨ 160 ≤ (nI a * 40 + nI i).toNatClampNeg) := by
  have e : (40 : Int32) = nI 40 := rfl
  rw [e, pk_mul, nI_add]
  exact xinb (by omega) (by decide)
theorem c_renl {sc : xS} {d : Nat} {Q : xR → Prop} (h : xH) (o c : Nat) (fs : List Value) (hf : fs[2]? = some (.ref c)) (ho : h[o]? = some (.inr (2, fs))) (hc : h[c]? = some (xJ 160)) (s sort n : Int32) (a N : Nat) (hs : s = nI a) (ha : a < 4) (hn : n = nI N) (hN : N ≤ 40) : ∀ (m i : Nat) (v : Int32), i + m = N → v = nI i →
    xT xg sc d 36 42 [(4, .int n), (0, .ref o), (1, .int s), (2, .int sort), (3, .int n)] [] h Q → xT xg sc d 36 17 [(4, .int v), (0, .ref o), (1, .int s), (2, .int sort), (3, .int n)] [] h Q := by
  intro m
  induction m with
  | zero =>
    intro i v hi hv k
    obtain rfl : i = N := by omega
    have hv : v = n := hv.trans hn.symm
    subst hv
    refine wLi 19 i36_17 rfl rfl ?_
    refine wLin 20 i36_19 rfl rfl ?_
    refine wCT 42 i36_20 rfl (decide_eq_true (Int32.le_refl _)) ?_
    exact k
  | succ m ih =>
    intro i v hi hv k
    have hb : i < N := by omega
    subst hv
    refine wLi 19 i36_17 rfl rfl ?_
    refine wLin 20 i36_19 rfl rfl ?_
    refine wCF 42 23 i36_20 rfl (decide_eq_false (by rw [hn]; exact nI_ge hb (by omega))) rfl ?_
    refine wLan 24 i36_23 rfl rfl ?_
    refine wGet 27 (.ref c) i36_24 f36_18 ho hf rfl ?_
    refine wLin 28 i36_27 rfl rfl ?_
    refine wKb 30 40 i36_28 (by decide) rfl ?_
    refine wA 31 i36_30 rfl rfl rfl ?_
    refine wLi 33 i36_31 rfl rfl ?_
    refine wA 34 i36_33 rfl rfl rfl ?_
    refine wKl 35 0 i36_34 (by decide) rfl ?_
    refine wLasS 36 i36_35 hc (by rw [hs]; exact x_ib3 ha (by omega)) rfl rfl ?_
    refine wInc 39 [(4, .int (nI (i + 1))), (0, .ref o), (1, .int s), (2, .int sort), (3, .int n)] (nI (i + 1)) i36_36 m36 (by decide) rfl (nI_1 i) rfl rfl ?_
    refine wGo 17 i36_39 rfl ?_
    exact ih (i + 1) _ (by omega) rfl k
/-- the same, told of the numbers themselves -/
theorem c_ren {sc : xS} {d : Nat} {Q : xR → Prop} (h : xH) (o c : Nat) (fs : List Value) (hf : fs[2]? = some (.ref c)) (ho : h[o]? = some (.inr (2, fs))) (hc : h[c]? = some (xJ 160)) (s sort n : Int32) (h1 : 0 ≤ s) (h2 : s ≤ 3) (h3 : 0 ≤ n) (h4 : n ≤ 40) (k : xT xg sc d 36 42 [(4, .int n), (0, .ref o), (1, .int s), (2, .int sort), (3, .int n)] [] h Q) : xT xg sc d 36 17 [(4, .int 0), (0, .ref o), (1, .int s), (2, .int sort), (3, .int n)] [] h Q := by
  obtain ⟨a, e1, e2, -⟩ := x_cl h1 h2 (by decide)
  obtain ⟨N, e3, e4, -⟩ := x_cl h3 h4 (by decide)
  rw [Int32.le_iff_toInt_le] at h2 h4
  have z1 : (3 : Int32).toInt = 3 := rfl
  have z2 : (40 : Int32).toInt = 40 := rfl
  exact c_renl h o c fs hf ho hc s sort n a N e1 (by omega) e3 (by omega) N 0 0 (by omega) rfl k
theorem r_shl {sc : xS} {d : Nat} {Q : xR → Prop} (h : xH) (o c : Nat) (fs : List Value) (hf : fs[68]? = some (.ref c)) (ho : h[o]? = some (.inr (7, fs))) (hc : h[c]? = some (xJ 160)) (s sort n : Int32) (a N : Nat) (hs : s = nI a) (ha : a < 4) (hn : n = nI N) (hN : N ≤ 40) (hso : ¬ sort < 0) : ∀ (m i : Nat) (v : Int32), i + m = N → v = nI i →
    xT xg sc d 183 106 [(4, .int n), (0, .ref o), (1, .int s), (2, .int sort), (3, .int n)] [] h Q → xT xg sc d 183 77 [(4, .int v), (0, .ref o), (1, .int s), (2, .int sort), (3, .int n)] [] h Q := by
  intro m
  induction m with
  | zero =>
    intro i v hi hv k
    obtain rfl : i = N := by omega
    have hv : v = n := hv.trans hn.symm
    subst hv
    refine wLi 79 i183_77 rfl rfl ?_
    refine wLin 80 i183_79 rfl rfl ?_
    refine wCT 106 i183_80 rfl (decide_eq_true (Int32.le_refl _)) ?_
    exact k
  | succ m ih =>
    intro i v hi hv k
    have hb : i < N := by omega
    subst hv
    refine wLi 79 i183_77 rfl rfl ?_
    refine wLin 80 i183_79 rfl rfl ?_
    refine wCF 106 83 i183_80 rfl (decide_eq_false (by rw [hn]; exact nI_ge hb (by omega))) rfl ?_
    refine wLin 84 i183_83 rfl rfl ?_
    refine wZF 106 87 i183_84 rfl (decide_eq_false hso) rfl ?_
    refine wLan 88 i183_87 rfl rfl ?_
    refine wGet 91 (.ref c) i183_88 f183_172 ho hf rfl ?_
    refine wKb 93 40 i183_91 (by decide) rfl ?_
    refine wLin 94 i183_93 rfl rfl ?_
    refine wA 95 i183_94 rfl rfl rfl ?_
    refine wLi 97 i183_95 rfl rfl ?_
    refine wA 98 i183_97 rfl rfl rfl ?_
    refine wKl 99 0 i183_98 (by decide) rfl ?_
    refine wLasS 100 i183_99 hc (by rw [hs]; exact x_ib2 (A := 40) (B := 4) 40 rfl ha (by omega) (by decide) (by decide)) rfl rfl ?_
    refine wInc 103 [(4, .int (nI (i + 1))), (0, .ref o), (1, .int s), (2, .int sort), (3, .int n)] (nI (i + 1)) i183_100 m183 (by decide) rfl (nI_1 i) rfl rfl ?_
    refine wGo 77 i183_103 rfl ?_
    exact ih (i + 1) _ (by omega) rfl k
theorem r_sh {sc : xS} {d : Nat} {Q : xR → Prop} (h : xH) (o c : Nat) (fs : List Value) (hf : fs[68]? = some (.ref c)) (ho : h[o]? = some (.inr (7, fs))) (hc : h[c]? = some (xJ 160)) (s sort n : Int32) (h1 : 0 ≤ s) (h2 : s ≤ 3) (h3 : 0 ≤ n) (h4 : n ≤ 40) (hso : ¬ sort < 0) (k : xT xg sc d 183 106 [(4, .int n), (0, .ref o), (1, .int s), (2, .int sort), (3, .int n)] [] h Q) : xT xg sc d 183 77 [(4, .int 0), (0, .ref o), (1, .int s), (2, .int sort), (3, .int n)] [] h Q := by
  obtain ⟨a, e1, e2, -⟩ := x_cl h1 h2 (by decide)
  obtain ⟨N, e3, e4, -⟩ := x_cl h3 h4 (by decide)
  rw [Int32.le_iff_toInt_le] at h2 h4
  have z1 : (3 : Int32).toInt = 3 := rfl
  have z2 : (40 : Int32).toInt = 40 := rfl
  exact r_shl h o c fs hf ho hc s sort n a N e1 (by omega) e3 (by omega) hso N 0 0 (by omega) rfl k
def sp_sheet (a1 : Int32) (a2 : Int32) (a3 : Int32) : Int32 := (if (a1) < 0 then (-2) else (if 4 ≤ (a1) then (-2) else (if (a2) < (-1) then (-2) else (if (a2) ≤ 2 then (if (a2) = (-1) then 1 else (if (a3) ≤ 40 then (if 0 ≤ (a3) then 1 else (-14)) else (-2))) else (-2)))))
set_option maxHeartbeats 4000000 in
set_option maxRecDepth 100000 in
theorem q_sheet {sc : xS} {d : Nat} (t : xH) (a1 : Int32) (a2 : Int32) (a3 : Int32) : xT xg sc (d + 12) 111 0 [(0, .ref 0), (1, .int (a1)), (2, .int (a2)), (3, .int (a3))] [] (hC t) (fun r => r.1 = some (.int (sp_sheet a1 a2 a3)) ∧ (∃ f, r.2.1 = xpre f t) ∧ r.2.2 = (0, 0)) := by
  refine wLin 1 i111_0 rfl rfl ?_
  refine jCall 4 [.int (a1)] [] [(0, .int (a1))] i111_1 rfl (xlk1 l111_215) (Or.inr (Or.inl rfl)) m97 rfl rfl (Nat.le_of_ble_eq_true rfl) (Nat.le_of_ble_eq_true rfl) (Nat.le_of_ble_eq_true rfl) rfl rfl rfl ?_
  refine wLin 1 i97_0 rfl rfl ?_
  by_cases c1 : (a1) < 0
  ·
    refine wZT 13 i97_1 rfl (decide_eq_true c1) ?_
    refine wK 14 0 i97_13 (by decide) rfl ?_
    refine jRi i97_14 m97 (by decide) ?_
    refine wZT 17 i111_4 rfl (by decide) ?_
    refine wKb 19 (-2) i111_17 (by decide) rfl ?_
    refine wRi i111_19 m111 rfl ?_
    refine ⟨congrArg (fun z => some (Value.int z)) ?_, xpre_of _ _ rfl, rfl⟩
    rw [sp_sheet, if_pos c1]
  ·
    refine wZF 13 4 i97_1 rfl (decide_eq_false c1) rfl ?_
    refine wLin 5 i97_4 rfl rfl ?_
    refine wK 6 4 i97_5 (by decide) rfl ?_
    by_cases c2 : 4 ≤ (a1)
    ·
      refine wCT 13 i97_6 rfl (decide_eq_true c2) ?_
      refine wK 14 0 i97_13 (by decide) rfl ?_
      refine jRi i97_14 m97 (by decide) ?_
      refine wZT 17 i111_4 rfl (by decide) ?_
      refine wKb 19 (-2) i111_17 (by decide) rfl ?_
      refine wRi i111_19 m111 rfl ?_
      refine ⟨congrArg (fun z => some (Value.int z)) ?_, xpre_of _ _ rfl, rfl⟩
      rw [sp_sheet, if_neg c1, if_pos c2]
    ·
      refine wCF 13 9 i97_6 rfl (decide_eq_false c2) rfl ?_
      refine wK 10 1 i97_9 (by decide) rfl ?_
      refine wGo 14 i97_10 rfl ?_
      refine jRi i97_14 m97 (by decide) ?_
      refine wZF 17 7 i111_4 rfl (by decide) rfl ?_
      refine wLin 8 i111_7 rfl rfl ?_
      refine wK 9 (-1) i111_8 (by decide) rfl ?_
      by_cases c3 : (a2) < (-1)
      ·
        refine wCT 17 i111_9 rfl (decide_eq_true c3) ?_
        refine wKb 19 (-2) i111_17 (by decide) rfl ?_
        refine wRi i111_19 m111 rfl ?_
        refine ⟨congrArg (fun z => some (Value.int z)) ?_, xpre_of _ _ rfl, rfl⟩
        rw [sp_sheet, if_neg c1, if_neg c2, if_pos c3]
      ·
        refine wCF 17 12 i111_9 rfl (decide_eq_false c3) rfl ?_
        refine wLin 13 i111_12 rfl rfl ?_
        refine wK 14 2 i111_13 (by decide) rfl ?_
        by_cases c4 : (a2) ≤ 2
        ·
          refine wCT 20 i111_14 rfl (decide_eq_true c4) ?_
          refine wLin 21 i111_20 rfl rfl ?_
          refine wK 22 (-1) i111_21 (by decide) rfl ?_
          by_cases c5 : (a2) = (-1)
          ·
            refine wCF 37 25 i111_22 rfl (decide_eq_false (fun z => z c5)) rfl ?_
            subst c5
            refine wLan 26 i111_25 rfl rfl ?_
            refine wGet 29 (.ref 51) i111_26 f111_54 rfl rfl rfl ?_
            refine wLin 30 i111_29 rfl rfl ?_
            refine wK 31 (-1) i111_30 (by decide) rfl ?_
            refine wK 32 0 i111_31 (by decide) rfl ?_
            refine jCall 35 [.ref 51, .int (a1), .int (-1), .int 0] [] [(0, .ref 51), (1, .int (a1)), (2, .int (-1)), (3, .int 0)] i111_32 rfl (xlk0 l111_222) (Or.inl rfl) m36 rfl rfl (Nat.le_of_ble_eq_true rfl) (Nat.le_of_ble_eq_true rfl) (Nat.le_of_ble_eq_true rfl) rfl rfl rfl ?_
            refine wLan 1 i36_0 rfl rfl ?_
            refine wGet 4 (.ref 52) i36_1 f36_9 rfl rfl rfl ?_
            refine wLin 5 i36_4 rfl rfl ?_
            refine wLin 6 i36_5 rfl rfl ?_
            refine wIas 7 i36_6 rfl (x_ib (Int32.not_lt.mp c1) (x_lt1 (z := 3) (Int32.not_le.mp c2) (by decide)) (by decide) (by decide)) rfl ?_
            refine wLan 8 i36_7 rfl rfl ?_
            refine wGet 11 (.ref 53) i36_8 f36_15 rfl rfl rfl ?_
            refine wLin 12 i36_11 rfl rfl ?_
            refine wLin 13 i36_12 rfl rfl ?_
            refine wIasS 14 i36_13 rfl (x_ib (Int32.not_lt.mp c1) (x_lt1 (z := 3) (Int32.not_le.mp c2) (by decide)) (by decide) (by decide)) rfl rfl ?_
            refine wK 15 0 i36_14 (by decide) rfl ?_
            refine wSi 17 [(4, .int 0), (0, .ref 51), (1, .int (a1)), (2, .int (-1)), (3, .int 0)] i36_15 m36 (by decide) rfl rfl ?_
            refine wLi 19 i36_17 rfl rfl ?_
            refine wLin 20 i36_19 rfl rfl ?_
            refine wCT 42 i36_20 rfl (by decide) ?_
            refine jR0 i36_42 m36 ?_
            refine wK 36 1 i111_35 (by decide) rfl ?_
            refine wRi i111_36 m111 rfl ?_
            refine ⟨congrArg (fun z => some (Value.int z)) ?_, xpre_of _ _ rfl, rfl⟩
            rw [sp_sheet, if_neg c1, if_neg c2, if_neg c3, if_pos c4, if_pos rfl]
          ·
            refine wCT 37 i111_22 rfl (decide_eq_true c5) ?_
            refine wLin 38 i111_37 rfl rfl ?_
            refine wKb 40 40 i111_38 (by decide) rfl ?_
            by_cases c6 : (a3) ≤ 40
            ·
              refine wCT 46 i111_40 rfl (decide_eq_true c6) ?_
              refine wLin 47 i111_46 rfl rfl ?_
              by_cases c7 : 0 ≤ (a3)
              ·
                refine wZT 53 i111_47 rfl (decide_eq_true c7) ?_
                refine wLan 54 i111_53 rfl rfl ?_
                refine wGet 57 (.ref 51) i111_54 f111_54 rfl rfl rfl ?_
                refine wLin 58 i111_57 rfl rfl ?_
                refine wLin 59 i111_58 rfl rfl ?_
                refine wLin 60 i111_59 rfl rfl ?_
                refine jCall 63 [.ref 51, .int (a1), .int (a2), .int (a3)] [] [(0, .ref 51), (1, .int (a1)), (2, .int (a2)), (3, .int (a3))] i111_60 rfl (xlk0 l111_222) (Or.inl rfl) m36 rfl rfl (Nat.le_of_ble_eq_true rfl) (Nat.le_of_ble_eq_true rfl) (Nat.le_of_ble_eq_true rfl) rfl rfl rfl ?_
                refine wLan 1 i36_0 rfl rfl ?_
                refine wGet 4 (.ref 52) i36_1 f36_9 rfl rfl rfl ?_
                refine wLin 5 i36_4 rfl rfl ?_
                refine wLin 6 i36_5 rfl rfl ?_
                refine wIas 7 i36_6 rfl (x_ib (Int32.not_lt.mp c1) (x_lt1 (z := 3) (Int32.not_le.mp c2) (by decide)) (by decide) (by decide)) rfl ?_
                refine wLan 8 i36_7 rfl rfl ?_
                refine wGet 11 (.ref 53) i36_8 f36_15 rfl rfl rfl ?_
                refine wLin 12 i36_11 rfl rfl ?_
                refine wLin 13 i36_12 rfl rfl ?_
                refine wIas 14 i36_13 rfl (x_ib (Int32.not_lt.mp c1) (x_lt1 (z := 3) (Int32.not_le.mp c2) (by decide)) (by decide) (by decide)) rfl ?_
                refine wK 15 0 i36_14 (by decide) rfl ?_
                refine wSi 17 [(4, .int 0), (0, .ref 51), (1, .int (a1)), (2, .int (a2)), (3, .int (a3))] i36_15 m36 (by decide) rfl rfl ?_
                refine c_ren _ 51 54 _ rfl rfl rfl _ _ _ (Int32.not_lt.mp c1) (x_lt1 (z := 3) (Int32.not_le.mp c2) (by decide)) c7 c6 ?_
                refine jR0 i36_42 m36 ?_
                refine wK 64 1 i111_63 (by decide) rfl ?_
                refine wRi i111_64 m111 rfl ?_
                refine ⟨congrArg (fun z => some (Value.int z)) ?_, xpre_of _ _ rfl, rfl⟩
                rw [sp_sheet, if_neg c1, if_neg c2, if_neg c3, if_pos c4, if_neg c5, if_pos c6, if_pos c7]
              ·
                refine wZF 53 50 i111_47 rfl (decide_eq_false c7) rfl ?_
                refine wKb 52 (-14) i111_50 (by decide) rfl ?_
                refine wRi i111_52 m111 rfl ?_
                refine ⟨congrArg (fun z => some (Value.int z)) ?_, xpre_of _ _ rfl, rfl⟩
                rw [sp_sheet, if_neg c1, if_neg c2, if_neg c3, if_pos c4, if_neg c5, if_pos c6, if_neg c7]
            ·
              refine wCF 46 43 i111_40 rfl (decide_eq_false c6) rfl ?_
              refine wKb 45 (-2) i111_43 (by decide) rfl ?_
              refine wRi i111_45 m111 rfl ?_
              refine ⟨congrArg (fun z => some (Value.int z)) ?_, xpre_of _ _ rfl, rfl⟩
              rw [sp_sheet, if_neg c1, if_neg c2, if_neg c3, if_pos c4, if_neg c5, if_neg c6]
        ·
          refine wCF 20 17 i111_14 rfl (decide_eq_false c4) rfl ?_
          refine wKb 19 (-2) i111_17 (by decide) rfl ?_
          refine wRi i111_19 m111 rfl ?_
          refine ⟨congrArg (fun z => some (Value.int z)) ?_, xpre_of _ _ rfl, rfl⟩
          rw [sp_sheet, if_neg c1, if_neg c2, if_neg c3, if_neg c4]
set_option maxHeartbeats 4000000 in
set_option maxRecDepth 100000 in
theorem r_sheet {sc : xS} {d : Nat} (f : Nat → xE) (a1 : Int32) (a2 : Int32) (a3 : Int32) : xT xg sc (d + 12) 183 0 [(0, .ref 77), (1, .int (a1)), (2, .int (a2)), (3, .int (a3))] [] (hM f) (fun r => r.1 = some (.int (sp_sheet a1 a2 a3)) ∧ r.2.2 = (0, 0)) := by
  refine wLin 1 i183_0 rfl rfl ?_
  refine jCall 4 [.int (a1)] [] [(0, .int (a1))] i183_1 rfl (xlk1 l183_403) (Or.inr (Or.inl rfl)) m149 rfl rfl (Nat.le_of_ble_eq_true rfl) (Nat.le_of_ble_eq_true rfl) (Nat.le_of_ble_eq_true rfl) rfl rfl rfl ?_
  refine wLin 1 i149_0 rfl rfl ?_
  refine wA 2 i149_1 rfl rfl rfl ?_
  refine wKl 3 0 i149_2 (by decide) rfl ?_
  refine wKd 6 3 i149_3 c149_272 rfl ?_
  refine jCall 9 [.long ((a1).toInt64), .long 0, .long 3] [] [(0, .long ((a1).toInt64)), (2, .long 0), (4, .long 3)] i149_6 rfl (xlk1 l149_177) (Or.inr (Or.inl rfl)) m142 rfl rfl (Nat.le_of_ble_eq_true rfl) (Nat.le_of_ble_eq_true rfl) (Nat.le_of_ble_eq_true rfl) rfl rfl rfl ?_
  refine wLln 1 i142_0 rfl rfl ?_
  refine wLln 2 i142_1 rfl rfl ?_
  refine wA 3 i142_2 rfl rfl rfl ?_
  by_cases c1 : (a1) < 0
  ·
    refine wZT 17 i142_3 rfl (decide_eq_true (wl_lt (l := 0) (by decide) c1)) ?_
    refine wK 18 0 i142_17 (by decide) rfl ?_
    refine jRi i142_18 m142 (by decide) ?_
    refine jRi i149_9 m149 (by decide) ?_
    refine wZT 31 i183_4 rfl (by decide) ?_
    refine wKb 33 (-2) i183_31 (by decide) rfl ?_
    refine wRi i183_33 m183 rfl ?_
    refine ⟨congrArg (fun z => some (Value.int z)) ?_, rfl⟩
    unfold sp_sheet
    repeat' split
    all_goals first | rfl | (exfalso; simp only [Int32.lt_iff_toInt_lt, Int32.le_iff_toInt_le, ← Int32.toInt_inj] at * <;> (simp at * <;> omega))
  ·
    refine wZF 17 6 i142_3 rfl (decide_eq_false (wl_nlt (l := 0) (by decide) c1)) rfl ?_
    refine wLln 7 i142_6 rfl rfl ?_
    refine wLl 9 i142_7 rfl rfl ?_
    refine wA 10 i142_9 rfl rfl rfl ?_
    by_cases c2 : 3 < (a1)
    ·
      refine wZT 17 i142_10 rfl (decide_eq_true (wl_gt (l := 3) (by decide) c2)) ?_
      refine wK 18 0 i142_17 (by decide) rfl ?_
      refine jRi i142_18 m142 (by decide) ?_
      refine jRi i149_9 m149 (by decide) ?_
      refine wZT 31 i183_4 rfl (by decide) ?_
      refine wKb 33 (-2) i183_31 (by decide) rfl ?_
      refine wRi i183_33 m183 rfl ?_
      refine ⟨congrArg (fun z => some (Value.int z)) ?_, rfl⟩
      unfold sp_sheet
      repeat' split
      all_goals first | rfl | (exfalso; simp only [Int32.lt_iff_toInt_lt, Int32.le_iff_toInt_le, ← Int32.toInt_inj] at * <;> (simp at * <;> omega))
    ·
      refine wZF 17 13 i142_10 rfl (decide_eq_false (wl_ngt (l := 3) (by decide) c2)) rfl ?_
      refine wK 14 1 i142_13 (by decide) rfl ?_
      refine wGo 18 i142_14 rfl ?_
      refine jRi i142_18 m142 (by decide) ?_
      refine jRi i149_9 m149 (by decide) ?_
      refine wZF 31 7 i183_4 rfl (by decide) rfl ?_
      refine wLin 8 i183_7 rfl rfl ?_
      refine wA 9 i183_8 rfl rfl rfl ?_
      refine wKd 12 (-1) i183_9 c183_427 rfl ?_
      refine wKd 15 2 i183_12 c183_293 rfl ?_
      refine jCall 18 [.long ((a2).toInt64), .long (-1), .long 2] [] [(0, .long ((a2).toInt64)), (2, .long (-1)), (4, .long 2)] i183_15 rfl (xlk1 l183_177) (Or.inr (Or.inl rfl)) m142 rfl rfl (Nat.le_of_ble_eq_true rfl) (Nat.le_of_ble_eq_true rfl) (Nat.le_of_ble_eq_true rfl) rfl rfl rfl ?_
      refine wLln 1 i142_0 rfl rfl ?_
      refine wLln 2 i142_1 rfl rfl ?_
      refine wA 3 i142_2 rfl rfl rfl ?_
      by_cases c3 : (a2) < (-1)
      ·
        refine wZT 17 i142_3 rfl (decide_eq_true (wl_lt (l := (-1)) (by decide) c3)) ?_
        refine wK 18 0 i142_17 (by decide) rfl ?_
        refine jRi i142_18 m142 (by decide) ?_
        refine wZT 31 i183_18 rfl (by decide) ?_
        refine wKb 33 (-2) i183_31 (by decide) rfl ?_
        refine wRi i183_33 m183 rfl ?_
        refine ⟨congrArg (fun z => some (Value.int z)) ?_, rfl⟩
        unfold sp_sheet
        repeat' split
        all_goals first | rfl | (exfalso; simp only [Int32.lt_iff_toInt_lt, Int32.le_iff_toInt_le, ← Int32.toInt_inj] at * <;> (simp at * <;> omega))
      ·
        refine wZF 17 6 i142_3 rfl (decide_eq_false (wl_nlt (l := (-1)) (by decide) c3)) rfl ?_
        refine wLln 7 i142_6 rfl rfl ?_
        refine wLl 9 i142_7 rfl rfl ?_
        refine wA 10 i142_9 rfl rfl rfl ?_
        by_cases c4 : 2 < (a2)
        ·
          refine wZT 17 i142_10 rfl (decide_eq_true (wl_gt (l := 2) (by decide) c4)) ?_
          refine wK 18 0 i142_17 (by decide) rfl ?_
          refine jRi i142_18 m142 (by decide) ?_
          refine wZT 31 i183_18 rfl (by decide) ?_
          refine wKb 33 (-2) i183_31 (by decide) rfl ?_
          refine wRi i183_33 m183 rfl ?_
          refine ⟨congrArg (fun z => some (Value.int z)) ?_, rfl⟩
          unfold sp_sheet
          repeat' split
          all_goals first | rfl | (exfalso; simp only [Int32.lt_iff_toInt_lt, Int32.le_iff_toInt_le, ← Int32.toInt_inj] at * <;> (simp at * <;> omega))
        ·
          refine wZF 17 13 i142_10 rfl (decide_eq_false (wl_ngt (l := 2) (by decide) c4)) rfl ?_
          refine wK 14 1 i142_13 (by decide) rfl ?_
          refine wGo 18 i142_14 rfl ?_
          refine jRi i142_18 m142 (by decide) ?_
          refine wZF 31 21 i183_18 rfl (by decide) rfl ?_
          refine wLin 22 i183_21 rfl rfl ?_
          by_cases c5 : (a2) < 0
          ·
            refine wZT 34 i183_22 rfl (decide_eq_true c5) ?_
            refine wLin 35 i183_34 rfl rfl ?_
            refine wZT 45 i183_35 rfl (decide_eq_true c5) ?_
            refine wLan 46 i183_45 rfl rfl ?_
            refine wGet 49 (.ref 126) i183_46 f183_163 rfl rfl rfl ?_
            refine wLin 50 i183_49 rfl rfl ?_
            refine wLin 51 i183_50 rfl rfl ?_
            refine wZT 58 i183_51 rfl (decide_eq_true c5) ?_
            refine wK 59 0 i183_58 (by decide) rfl ?_
            refine wZasS 60 i183_59 rfl (x_ib (Int32.not_lt.mp c1) (Int32.not_lt.mp c2) (by decide) (by decide)) rfl rfl ?_
            refine wLan 61 i183_60 rfl rfl ?_
            refine wGet 64 (.ref 127) i183_61 f183_166 rfl rfl rfl ?_
            refine wLin 65 i183_64 rfl rfl ?_
            refine wLin 66 i183_65 rfl rfl ?_
            refine wIas 67 i183_66 rfl (x_ib (Int32.not_lt.mp c1) (Int32.not_lt.mp c2) (by decide) (by decide)) rfl ?_
            refine wLan 68 i183_67 rfl rfl ?_
            refine wGet 71 (.ref 128) i183_68 f183_169 rfl rfl rfl ?_
            refine wLin 72 i183_71 rfl rfl ?_
            refine wLin 73 i183_72 rfl rfl ?_
            refine wIas 74 i183_73 rfl (x_ib (Int32.not_lt.mp c1) (Int32.not_lt.mp c2) (by decide) (by decide)) rfl ?_
            refine wK 75 0 i183_74 (by decide) rfl ?_
            refine wSi 77 [(4, .int 0), (0, .ref 77), (1, .int (a1)), (2, .int (a2)), (3, .int (a3))] i183_75 m183 (by decide) rfl rfl ?_
            refine wLi 79 i183_77 rfl rfl ?_
            refine wLin 80 i183_79 rfl rfl ?_
            by_cases c6 : (a3) ≤ 0
            ·
              refine wCT 106 i183_80 rfl (decide_eq_true c6) ?_
              refine wK 107 1 i183_106 (by decide) rfl ?_
              refine wRi i183_107 m183 rfl ?_
              refine ⟨congrArg (fun z => some (Value.int z)) ?_, rfl⟩
              unfold sp_sheet
              repeat' split
              all_goals first | rfl | (exfalso; simp only [Int32.lt_iff_toInt_lt, Int32.le_iff_toInt_le, ← Int32.toInt_inj] at * <;> (simp at * <;> omega))
            ·
              refine wCF 106 83 i183_80 rfl (decide_eq_false c6) rfl ?_
              refine wLin 84 i183_83 rfl rfl ?_
              refine wZT 106 i183_84 rfl (decide_eq_true c5) ?_
              refine wK 107 1 i183_106 (by decide) rfl ?_
              refine wRi i183_107 m183 rfl ?_
              refine ⟨congrArg (fun z => some (Value.int z)) ?_, rfl⟩
              unfold sp_sheet
              repeat' split
              all_goals first | rfl | (exfalso; simp only [Int32.lt_iff_toInt_lt, Int32.le_iff_toInt_le, ← Int32.toInt_inj] at * <;> (simp at * <;> omega))
          ·
            refine wZF 34 25 i183_22 rfl (decide_eq_false c5) rfl ?_
            refine wLin 26 i183_25 rfl rfl ?_
            refine wKb 28 40 i183_26 (by decide) rfl ?_
            by_cases c7 : (a3) ≤ 40
            ·
              refine wCT 34 i183_28 rfl (decide_eq_true c7) ?_
              refine wLin 35 i183_34 rfl rfl ?_
              refine wZF 45 38 i183_35 rfl (decide_eq_false c5) rfl ?_
              refine wLin 39 i183_38 rfl rfl ?_
              by_cases c8 : 0 ≤ (a3)
              ·
                refine wZT 45 i183_39 rfl (decide_eq_true c8) ?_
                refine wLan 46 i183_45 rfl rfl ?_
                refine wGet 49 (.ref 126) i183_46 f183_163 rfl rfl rfl ?_
                refine wLin 50 i183_49 rfl rfl ?_
                refine wLin 51 i183_50 rfl rfl ?_
                refine wZF 58 54 i183_51 rfl (decide_eq_false c5) rfl ?_
                refine wK 55 1 i183_54 (by decide) rfl ?_
                refine wGo 59 i183_55 rfl ?_
                refine wZas 60 i183_59 rfl (x_ib (Int32.not_lt.mp c1) (Int32.not_lt.mp c2) (by decide) (by decide)) rfl ?_
                refine wLan 61 i183_60 rfl rfl ?_
                refine wGet 64 (.ref 127) i183_61 f183_166 rfl rfl rfl ?_
                refine wLin 65 i183_64 rfl rfl ?_
                refine wLin 66 i183_65 rfl rfl ?_
                refine wIas 67 i183_66 rfl (x_ib (Int32.not_lt.mp c1) (Int32.not_lt.mp c2) (by decide) (by decide)) rfl ?_
                refine wLan 68 i183_67 rfl rfl ?_
                refine wGet 71 (.ref 128) i183_68 f183_169 rfl rfl rfl ?_
                refine wLin 72 i183_71 rfl rfl ?_
                refine wLin 73 i183_72 rfl rfl ?_
                refine wIas 74 i183_73 rfl (x_ib (Int32.not_lt.mp c1) (Int32.not_lt.mp c2) (by decide) (by decide)) rfl ?_
                refine wK 75 0 i183_74 (by decide) rfl ?_
                refine wSi 77 [(4, .int 0), (0, .ref 77), (1, .int (a1)), (2, .int (a2)), (3, .int (a3))] i183_75 m183 (by decide) rfl rfl ?_
                refine r_sh _ 77 129 _ rfl rfl rfl _ _ _ (Int32.not_lt.mp c1) (Int32.not_lt.mp c2) c8 c7 (Int32.not_lt.mpr (Int32.not_lt.mp c5)) ?_
                refine wK 107 1 i183_106 (by decide) rfl ?_
                refine wRi i183_107 m183 rfl ?_
                refine ⟨congrArg (fun z => some (Value.int z)) ?_, rfl⟩
                unfold sp_sheet
                repeat' split
                all_goals first | rfl | (exfalso; simp only [Int32.lt_iff_toInt_lt, Int32.le_iff_toInt_le, ← Int32.toInt_inj] at * <;> (simp at * <;> omega))
              ·
                refine wZF 45 42 i183_39 rfl (decide_eq_false c8) rfl ?_
                refine wKb 44 (-14) i183_42 (by decide) rfl ?_
                refine wRi i183_44 m183 rfl ?_
                refine ⟨congrArg (fun z => some (Value.int z)) ?_, rfl⟩
                unfold sp_sheet
                repeat' split
                all_goals first | rfl | (exfalso; simp only [Int32.lt_iff_toInt_lt, Int32.le_iff_toInt_le, ← Int32.toInt_inj] at * <;> (simp at * <;> omega))
            ·
              refine wCF 34 31 i183_28 rfl (decide_eq_false c7) rfl ?_
              refine wKb 33 (-2) i183_31 (by decide) rfl ?_
              refine wRi i183_33 m183 rfl ?_
              refine ⟨congrArg (fun z => some (Value.int z)) ?_, rfl⟩
              unfold sp_sheet
              repeat' split
              all_goals first | rfl | (exfalso; simp only [Int32.lt_iff_toInt_lt, Int32.le_iff_toInt_le, ← Int32.toInt_inj] at * <;> (simp at * <;> omega))
