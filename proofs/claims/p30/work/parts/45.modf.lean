theorem f124_39 : xFld xg 124 39 = some (7, 9) := by decide +kernel
theorem f124_183 : xFld xg 124 183 = some (7, 19) := by decide +kernel
theorem f124_378 : xFld xg 124 378 = some (7, 39) := by decide +kernel
theorem f124_13 : xFld xg 124 13 = some (7, 1) := by decide +kernel
theorem i124_37 : xIns xg 124 37 = some (.iload_n 3) := by decide +kernel
theorem i124_38 : xIns xg 124 38 = some (.bipush 8) := by decide +kernel
theorem i124_40 : xIns xg 124 40 = some (.if_icmp .ge 18) := by decide +kernel
theorem i124_58 : xIns xg 124 58 = some (.iload_n 1) := by decide +kernel
theorem i124_59 : xIns xg 124 59 = some (.ifCond .ne 10) := by decide +kernel
theorem i124_69 : xIns xg 124 69 = some (.iload_n 1) := by decide +kernel
theorem i124_70 : xIns xg 124 70 = some (.iconst 1) := by decide +kernel
theorem i124_71 : xIns xg 124 71 = some (.if_icmp .ne 7) := by decide +kernel
theorem i124_78 : xIns xg 124 78 = some (.iload_n 1) := by decide +kernel
theorem i124_79 : xIns xg 124 79 = some (.iconst 4) := by decide +kernel
theorem i124_80 : xIns xg 124 80 = some (.if_icmp .ne 10) := by decide +kernel
theorem i124_90 : xIns xg 124 90 = some (.iload_n 1) := by decide +kernel
theorem i124_91 : xIns xg 124 91 = some (.iconst 5) := by decide +kernel
theorem i124_92 : xIns xg 124 92 = some (.if_icmp .ne 10) := by decide +kernel
theorem i124_102 : xIns xg 124 102 = some (.aload_n 0) := by decide +kernel
theorem i124_103 : xIns xg 124 103 = some (.getfield 39) := by decide +kernel
theorem i124_106 : xIns xg 124 106 = some (.ireturn) := by decide +kernel
theorem m124 : (xMet xg 124).2.2 = (4, (some .int)) := by decide +kernel
theorem i124_95 : xIns xg 124 95 = some (.aload_n 0) := by decide +kernel
theorem i124_96 : xIns xg 124 96 = some (.getfield 183) := by decide +kernel
theorem i124_99 : xIns xg 124 99 = some (.goto 7) := by decide +kernel
theorem i124_83 : xIns xg 124 83 = some (.aload_n 0) := by decide +kernel
theorem i124_84 : xIns xg 124 84 = some (.getfield 378) := by decide +kernel
theorem i124_87 : xIns xg 124 87 = some (.goto 19) := by decide +kernel
theorem i124_74 : xIns xg 124 74 = some (.iload_n 2) := by decide +kernel
theorem i124_75 : xIns xg 124 75 = some (.goto 31) := by decide +kernel
theorem i124_62 : xIns xg 124 62 = some (.aload_n 0) := by decide +kernel
theorem i124_63 : xIns xg 124 63 = some (.invokevirtual 422) := by decide +kernel
theorem i124_66 : xIns xg 124 66 = some (.goto 40) := by decide +kernel
theorem i124_43 : xIns xg 124 43 = some (.iload_n 2) := by decide +kernel
theorem i124_44 : xIns xg 124 44 = some (.aload_n 0) := by decide +kernel
theorem i124_45 : xIns xg 124 45 = some (.getfield 13) := by decide +kernel
theorem i124_48 : xIns xg 124 48 = some (.iload_n 3) := by decide +kernel
theorem i124_49 : xIns xg 124 49 = some (.iaload) := by decide +kernel
theorem i124_50 : xIns xg 124 50 = some (.iadd) := by decide +kernel
theorem i124_51 : xIns xg 124 51 = some (.istore_n 2) := by decide +kernel
theorem i124_52 : xIns xg 124 52 = some (.iinc 3 1) := by decide +kernel
theorem i124_55 : xIns xg 124 55 = some (.goto (-18)) := by decide +kernel
theorem i124_25 : xIns xg 124 25 = some (.aload_n 0) := by decide +kernel
theorem i124_26 : xIns xg 124 26 = some (.iload_n 1) := by decide +kernel
theorem i124_27 : xIns xg 124 27 = some (.iconst 2) := by decide +kernel
theorem i124_28 : xIns xg 124 28 = some (.isub) := by decide +kernel
theorem i124_29 : xIns xg 124 29 = some (.invokevirtual 389) := by decide +kernel
theorem i124_32 : xIns xg 124 32 = some (.ireturn) := by decide +kernel
theorem i124_0 : xIns xg 124 0 = some (.iload_n 1) := by decide +kernel
theorem i124_1 : xIns xg 124 1 = some (.i2l) := by decide +kernel
theorem i124_2 : xIns xg 124 2 = some (.lconst 0) := by decide +kernel
theorem i124_3 : xIns xg 124 3 = some (.ldc2_w 425) := by decide +kernel
theorem c124_425 : xCon xg 124 425 = some (vl (6)) := by decide +kernel
theorem i124_6 : xIns xg 124 6 = some (.invokestatic 177) := by decide +kernel
theorem i124_9 : xIns xg 124 9 = some (.ifCond .ne 6) := by decide +kernel
theorem i124_15 : xIns xg 124 15 = some (.iload_n 1) := by decide +kernel
theorem i124_16 : xIns xg 124 16 = some (.iconst 2) := by decide +kernel
theorem i124_17 : xIns xg 124 17 = some (.if_icmp .eq 8) := by decide +kernel
theorem i124_20 : xIns xg 124 20 = some (.iload_n 1) := by decide +kernel
theorem i124_21 : xIns xg 124 21 = some (.iconst 3) := by decide +kernel
theorem i124_22 : xIns xg 124 22 = some (.if_icmp .ne 11) := by decide +kernel
theorem i124_33 : xIns xg 124 33 = some (.iconst 0) := by decide +kernel
theorem i124_34 : xIns xg 124 34 = some (.istore_n 2) := by decide +kernel
theorem i124_35 : xIns xg 124 35 = some (.iconst 0) := by decide +kernel
theorem i124_36 : xIns xg 124 36 = some (.istore_n 3) := by decide +kernel
theorem i124_12 : xIns xg 124 12 = some (.bipush (-2)) := by decide +kernel
theorem i124_14 : xIns xg 124 14 = some (.ireturn) := by decide +kernel
def d_x8_count_37 (N : Nat)  (k37 : St → Int → Int → Int → Option Rs) (s : St) (x1 : Int) (x2 : Int) (x3 : Int) : Option Rs :=
  (if (w32 x3) < 8 then if 0 ≤ (w32 x3) ∧ (w32 x3) < ((8 : Nat) : Int) then bd (x2 + (s 78 (Int.toNat (w32 x3)))) fun v3 => bd (x3 + 1) fun v4 => k37 s x1 v3 v4 else none else (if (w32 x1) = 0 then bI (d_x8_full N  s ) fun s1 v2 => some (s1, v2) else (if (w32 x1) = 1 then some (s, x2) else (if (w32 x1) = 4 then some (s, (s 77 39)) else (if (w32 x1) = 5 then some (s, (s 77 19)) else some (s, (s 77 9)))))))
def d_x8_count_37L (N : Nat)  : Nat → St → Int → Int → Int → Option Rs
  | 0 => fun _ _ _ _ => none
  | n + 1 => d_x8_count_37 N  (d_x8_count_37L N  n)
set_option maxHeartbeats 4000000 in
set_option maxRecDepth 100000 in
theorem c_x8_count_37 {sc : xS} {d : Nat} {R : Rs} (N : Nat)  (hd : 2 ≤ d)   (k37 : St → Int → Int → Int → Option Rs) (hk37 : ∀ (s : St) (x1 : Int) (x2 : Int) (x3 : Int), k37 s x1 x2 x3 = some R → vT sc d 124 37 [(0, .ref 77), (1, vi x1), (2, vi x2), (3, vi x3)] [] s (fun r => r = qI R)) (s : St) (x1 : Int) (x2 : Int) (x3 : Int) : d_x8_count_37 N  k37 s x1 x2 x3 = some R → vT sc d 124 37 [(0, .ref 77), (1, vi x1), (2, vi x2), (3, vi x3)] [] s (fun r => r = qI R) := by
  obtain ⟨d, rfl⟩ : ∃ d', d = d' + 1 := ⟨d - 1, by omega⟩
  unfold d_x8_count_37
  refine vLin 38 i124_37 rfl rfl ?_
  refine vKb 40 i124_38 (by decide) rfl ?_
  refine vCge 58 43 rfl (show w32 8 = 8 from rfl) i124_40 rfl rfl ?_ ?_
  · refine vLin 59 i124_58 rfl rfl ?_
    refine vZne 69 62 rfl i124_59 rfl rfl ?_ ?_
    · refine vLin 70 i124_69 rfl rfl ?_
      refine vK 71 i124_70 rfl ?_
      refine vCne 78 74 rfl (show w32 1 = 1 from rfl) i124_71 rfl rfl ?_ ?_
      · refine vLin 79 i124_78 rfl rfl ?_
        refine vK 80 i124_79 rfl ?_
        refine vCne 90 83 rfl (show w32 4 = 4 from rfl) i124_80 rfl rfl ?_ ?_
        · refine vLin 91 i124_90 rfl rfl ?_
          refine vK 92 i124_91 rfl ?_
          refine vCne 102 95 rfl (show w32 5 = 5 from rfl) i124_92 rfl rfl ?_ ?_
          · refine vLan 103 i124_102 rfl rfl ?_
            refine vGet 106 i124_103 f124_39 sh_77 rfl rfl ?_
            exact vRi i124_106 m124 rfl
          · refine vLan 96 i124_95 rfl rfl ?_
            refine vGet 99 i124_96 f124_183 sh_77 rfl rfl ?_
            refine vGo 106 i124_99 rfl ?_
            exact vRi i124_106 m124 rfl
        · refine vLan 84 i124_83 rfl rfl ?_
          refine vGet 87 i124_84 f124_378 sh_77 rfl rfl ?_
          refine vGo 106 i124_87 rfl ?_
          exact vRi i124_106 m124 rfl
      · refine vLin 75 i124_74 rfl rfl ?_
        refine vGo 106 i124_75 rfl ?_
        exact vRi i124_106 m124 rfl
    · refine vLan 63 i124_62 rfl rfl ?_
      refine vCallI 66 [.ref 77] [] [(0, .ref 77)] i124_63 rfl (xlk0 l124_422) (Or.inl rfl) m136 rfl rfl (Nat.le_of_ble_eq_true rfl) (Nat.le_of_ble_eq_true rfl) (Nat.le_of_ble_eq_true rfl) (xh0 sh_77 (by decide)) rfl rfl (fun R1 => c_x8_full N   (by omega) s ) (fun s1 v2 => ?_)
      refine vGo 106 i124_66 rfl ?_
      exact vRi i124_106 m124 rfl
  · refine vLin 44 i124_43 rfl rfl ?_
    refine vLan 45 i124_44 rfl rfl ?_
    refine vGetC 48 i124_45 f124_13 sh_77 rfl rfl ?_
    refine vLin 49 i124_48 rfl rfl ?_
    refine vIal 50 rfl i124_49 sh_78 rfl ?_
    refine vIadd 51 i124_50 rfl ?_
    refine vSin 52 (fun v3 => [(2, vi v3), (0, .ref 77), (1, vi x1), (3, vi x3)]) i124_51 m124 (by decide) (fun v3 => (rfl : xst1 [(0, .ref 77), (1, vi x1), (2, vi x2), (3, vi x3)] 2 (vi v3) = [(2, vi v3), (0, .ref 77), (1, vi x1), (3, vi x3)])) rfl (fun v3 => ?_)
    refine vInc 55 (fun v4 => [(3, vi v4), (2, vi v3), (0, .ref 77), (1, vi x1)]) i124_52 m124 (by decide) rfl (fun _ => rfl) rfl (fun v4 => ?_)
    refine vGo 37 i124_55 rfl ?_
    exact fun hD => tLc [(0, .ref 77), (1, vi x1), (2, vi v3), (3, vi v4)] (xNdk [0, 1, 2, 3] rfl (by decide)) (xNdk [3, 2, 0, 1] rfl (by decide)) ⟨rfl, rfl, rfl, rfl, trivial⟩ (hk37 s x1 v3 v4 hD)
theorem c_x8_count_37L {sc : xS} {d : Nat} {R : Rs} (N : Nat)  (hd : 2 ≤ d)   : ∀ (n : Nat) (s : St) (x1 : Int) (x2 : Int) (x3 : Int), d_x8_count_37L N  n s x1 x2 x3 = some R → vT sc d 124 37 [(0, .ref 77), (1, vi x1), (2, vi x2), (3, vi x3)] [] s (fun r => r = qI R) := by
  intro n
  induction n with
  | zero => intro s x1 x2 x3 hD; cases hD
  | succ n ih => intro s x1 x2 x3 hD; exact c_x8_count_37 N  hd  _ ih s x1 x2 x3 hD
def d_x8_count_25 (N : Nat)  (s : St) (x1 : Int) : Option Rs :=
  bI (d_x8_toldAll N  s (x1 - 2)) fun s5 v6 => some (s5, v6)
set_option maxHeartbeats 4000000 in
set_option maxRecDepth 100000 in
theorem c_x8_count_25 {sc : xS} {d : Nat} {R : Rs} (N : Nat)  (hd : 2 ≤ d)   (s : St) (x1 : Int) : d_x8_count_25 N  s x1 = some R → vT sc d 124 25 [(0, .ref 77), (1, vi x1)] [] s (fun r => r = qI R) := by
  obtain ⟨d, rfl⟩ : ∃ d', d = d' + 1 := ⟨d - 1, by omega⟩
  unfold d_x8_count_25
  refine vLan 26 i124_25 rfl rfl ?_
  refine vLin 27 i124_26 rfl rfl ?_
  refine vK 28 i124_27 rfl ?_
  refine vIsub 29 i124_28 rfl ?_
  refine vCallI 32 [.ref 77, vi (x1 - 2)] [] [(0, .ref 77), (1, vi (x1 - 2))] i124_29 rfl (xlk0 l124_389) (Or.inl rfl) m192 rfl rfl (Nat.le_of_ble_eq_true rfl) (Nat.le_of_ble_eq_true rfl) (Nat.le_of_ble_eq_true rfl) (xh0 sh_77 (by decide)) rfl rfl (fun R1 => c_x8_toldAll N   (by omega) s (x1 - 2)) (fun s5 v6 => ?_)
  exact vRi i124_32 m124 rfl
def d_x8_count (N : Nat)  (s : St) (a0 : Int) : Option Rs :=
  bI (d_x8_in N  s (w32 a0) 0 6) fun s7 v8 => (if (w32 v8) = 0 then some (s7, (-2)) else (if (w32 a0) = 2 then d_x8_count_25 N  s7 a0 else (if (w32 a0) = 3 then d_x8_count_25 N  s7 a0 else d_x8_count_37L N  N s7 a0 0 0)))
set_option maxHeartbeats 4000000 in
set_option maxRecDepth 100000 in
theorem c_x8_count {sc : xS} {d : Nat} {R : Rs} (N : Nat)  (hd : 2 ≤ d)   (s : St) (a0 : Int) : d_x8_count N  s a0 = some R → vT sc d 124 0 [(0, .ref 77), (1, vi a0)] [] s (fun r => r = qI R) := by
  obtain ⟨d, rfl⟩ : ∃ d', d = d' + 1 := ⟨d - 1, by omega⟩
  unfold d_x8_count
  refine vLin 1 i124_0 rfl rfl ?_
  refine vI2l 2 i124_1 rfl ?_
  refine vKl 3 0 i124_2 (by decide) rfl ?_
  refine vKd 6 i124_3 c124_425 rfl ?_
  refine vCallI 9 [vl (w32 a0), vl 0, vl 6] [] [(0, vl (w32 a0)), (2, vl 0), (4, vl 6)] i124_6 rfl (xlk1 l124_177) (Or.inr (Or.inl rfl)) m142 rfl rfl (Nat.le_of_ble_eq_true rfl) (Nat.le_of_ble_eq_true rfl) (Nat.le_of_ble_eq_true rfl) rfl rfl rfl (fun R1 => c_x8_in N   (by omega) s (w32 a0) 0 6) (fun s7 v8 => ?_)
  refine vZne 15 12 rfl i124_9 rfl rfl ?_ ?_
  · refine vLin 16 i124_15 rfl rfl ?_
    refine vK 17 i124_16 rfl ?_
    refine vCeq 25 20 rfl (show w32 2 = 2 from rfl) i124_17 rfl rfl ?_ ?_
    · exact fun hD => c_x8_count_25 N  hd  s7 a0 hD
    · refine vLin 21 i124_20 rfl rfl ?_
      refine vK 22 i124_21 rfl ?_
      refine vCne 33 25 rfl (show w32 3 = 3 from rfl) i124_22 rfl rfl ?_ ?_
      · refine vK 34 i124_33 rfl ?_
        refine vSin0 35 [(2, vi 0), (0, .ref 77), (1, vi a0)] i124_34 m124 (by decide) rfl rfl ?_
        refine vK 36 i124_35 rfl ?_
        refine vSin0 37 [(3, vi 0), (2, vi 0), (0, .ref 77), (1, vi a0)] i124_36 m124 (by decide) rfl rfl ?_
        exact fun hD => tLc [(0, .ref 77), (1, vi a0), (2, vi 0), (3, vi 0)] (xNdk [0, 1, 2, 3] rfl (by decide)) (xNdk [3, 2, 0, 1] rfl (by decide)) ⟨rfl, rfl, rfl, rfl, trivial⟩ (c_x8_count_37L N  hd  N s7 a0 0 0 hD)
      · exact fun hD => c_x8_count_25 N  hd  s7 a0 hD
  · refine vKb 14 i124_12 (by decide) rfl ?_
    exact vRi i124_14 m124 rfl
theorem f179_163 : xFld xg 179 163 = some (7, 65) := by decide +kernel
theorem f179_169 : xFld xg 179 169 = some (7, 67) := by decide +kernel
theorem f179_172 : xFld xg 179 172 = some (7, 68) := by decide +kernel
theorem f179_166 : xFld xg 179 166 = some (7, 66) := by decide +kernel
theorem i179_86 : xIns xg 179 86 = some (.lastore) := by decide +kernel
theorem i179_87 : xIns xg 179 87 = some (.iconst 1) := by decide +kernel
theorem i179_88 : xIns xg 179 88 = some (.ireturn) := by decide +kernel
theorem m179 : (xMet xg 179).2.2 = (5, (some .int)) := by decide +kernel
theorem i179_0 : xIns xg 179 0 = some (.iload_n 1) := by decide +kernel
theorem i179_1 : xIns xg 179 1 = some (.invokestatic 403) := by decide +kernel
theorem i179_4 : xIns xg 179 4 = some (.ifCond .ne 6) := by decide +kernel
theorem i179_10 : xIns xg 179 10 = some (.aload_n 0) := by decide +kernel
theorem i179_11 : xIns xg 179 11 = some (.getfield 163) := by decide +kernel
theorem i179_14 : xIns xg 179 14 = some (.iload_n 1) := by decide +kernel
theorem i179_15 : xIns xg 179 15 = some (.baload) := by decide +kernel
theorem i179_16 : xIns xg 179 16 = some (.ifCond .ne 6) := by decide +kernel
theorem i179_22 : xIns xg 179 22 = some (.iload_n 2) := by decide +kernel
theorem i179_23 : xIns xg 179 23 = some (.i2l) := by decide +kernel
theorem i179_24 : xIns xg 179 24 = some (.lconst 0) := by decide +kernel
theorem i179_25 : xIns xg 179 25 = some (.aload_n 0) := by decide +kernel
theorem i179_26 : xIns xg 179 26 = some (.getfield 169) := by decide +kernel
theorem i179_29 : xIns xg 179 29 = some (.iload_n 1) := by decide +kernel
theorem i179_30 : xIns xg 179 30 = some (.iaload) := by decide +kernel
theorem i179_31 : xIns xg 179 31 = some (.iconst 1) := by decide +kernel
theorem i179_32 : xIns xg 179 32 = some (.isub) := by decide +kernel
theorem i179_33 : xIns xg 179 33 = some (.i2l) := by decide +kernel
theorem i179_34 : xIns xg 179 34 = some (.invokestatic 177) := by decide +kernel
theorem i179_37 : xIns xg 179 37 = some (.ifCond .ne 6) := by decide +kernel
theorem i179_43 : xIns xg 179 43 = some (.aload_n 0) := by decide +kernel
theorem i179_44 : xIns xg 179 44 = some (.getfield 172) := by decide +kernel
theorem i179_47 : xIns xg 179 47 = some (.bipush 40) := by decide +kernel
theorem i179_49 : xIns xg 179 49 = some (.iload_n 1) := by decide +kernel
theorem i179_50 : xIns xg 179 50 = some (.imul) := by decide +kernel
theorem i179_51 : xIns xg 179 51 = some (.iload_n 2) := by decide +kernel
theorem i179_52 : xIns xg 179 52 = some (.iadd) := by decide +kernel
theorem i179_53 : xIns xg 179 53 = some (.aload_n 0) := by decide +kernel
theorem i179_54 : xIns xg 179 54 = some (.getfield 166) := by decide +kernel
theorem i179_57 : xIns xg 179 57 = some (.iload_n 1) := by decide +kernel
theorem i179_58 : xIns xg 179 58 = some (.iaload) := by decide +kernel
theorem i179_59 : xIns xg 179 59 = some (.ifCond .ne 7) := by decide +kernel
theorem i179_66 : xIns xg 179 66 = some (.aload_n 0) := by decide +kernel
theorem i179_67 : xIns xg 179 67 = some (.getfield 166) := by decide +kernel
theorem i179_70 : xIns xg 179 70 = some (.iload_n 1) := by decide +kernel
theorem i179_71 : xIns xg 179 71 = some (.iaload) := by decide +kernel
theorem i179_72 : xIns xg 179 72 = some (.iconst 1) := by decide +kernel
theorem i179_73 : xIns xg 179 73 = some (.if_icmp .ne 9) := by decide +kernel
theorem i179_82 : xIns xg 179 82 = some (.lload_n 3) := by decide +kernel
theorem i179_83 : xIns xg 179 83 = some (.l2i) := by decide +kernel
theorem i179_84 : xIns xg 179 84 = some (.i2b) := by decide +kernel
theorem i179_85 : xIns xg 179 85 = some (.i2l) := by decide +kernel
theorem i179_76 : xIns xg 179 76 = some (.lload_n 3) := by decide +kernel
theorem i179_77 : xIns xg 179 77 = some (.l2i) := by decide +kernel
theorem i179_78 : xIns xg 179 78 = some (.i2l) := by decide +kernel
theorem i179_79 : xIns xg 179 79 = some (.goto 7) := by decide +kernel
theorem i179_62 : xIns xg 179 62 = some (.lload_n 3) := by decide +kernel
theorem i179_63 : xIns xg 179 63 = some (.goto 23) := by decide +kernel
theorem i179_40 : xIns xg 179 40 = some (.bipush (-12)) := by decide +kernel
theorem i179_42 : xIns xg 179 42 = some (.ireturn) := by decide +kernel
theorem i179_19 : xIns xg 179 19 = some (.bipush (-11)) := by decide +kernel
theorem i179_21 : xIns xg 179 21 = some (.ireturn) := by decide +kernel
theorem i179_7 : xIns xg 179 7 = some (.bipush (-2)) := by decide +kernel
theorem i179_9 : xIns xg 179 9 = some (.ireturn) := by decide +kernel
def d_x8_put_86 (N : Nat)  (s : St) (z0 : Int) (z1 : Int) : Option Rs :=
  if 0 ≤ (w32 z1) ∧ (w32 z1) < ((160 : Nat) : Int) then bd (up s 129 (Int.toNat (w32 z1)) z0) fun s1 => some (s1, 1) else none
set_option maxHeartbeats 4000000 in
set_option maxRecDepth 100000 in
theorem c_x8_put_86 {sc : xS} {d : Nat} {R : Rs} (N : Nat)  (hd : 2 ≤ d)   (s : St) (z0 : Int) (z1 : Int) : d_x8_put_86 N  s z0 z1 = some R → vT sc d 179 86 [] [vl z0, vi z1, .ref 129] s (fun r => r = qI R) := by
  obtain ⟨d, rfl⟩ : ∃ d', d = d' + 1 := ⟨d - 1, by omega⟩
  unfold d_x8_put_86
  refine vLas 87 rfl i179_86 sh_129 rfl (fun s1 => ?_)
  refine vK 88 i179_87 rfl ?_
  exact vRi i179_88 m179 rfl
def d_x8_put (N : Nat)  (s : St) (a0 : Int) (a1 : Int) (a2 : Int) : Option Rs :=
  bI (d_x8_isSheet N  s a0) fun s2 v3 => (if (w32 v3) = 0 then some (s2, (-2)) else if 0 ≤ (w32 a0) ∧ (w32 a0) < ((4 : Nat) : Int) then (if (w32 (s2 126 (Int.toNat (w32 a0)))) = 0 then some (s2, (-11)) else if 0 ≤ (w32 a0) ∧ (w32 a0) < ((4 : Nat) : Int) then bI (d_x8_in N  s2 (w32 a1) 0 (w32 ((s2 128 (Int.toNat (w32 a0))) - 1))) fun s4 v5 => (if (w32 v5) = 0 then some (s4, (-12)) else if 0 ≤ (w32 a0) ∧ (w32 a0) < ((4 : Nat) : Int) then (if (w32 (s4 127 (Int.toNat (w32 a0)))) = 0 then d_x8_put_86 N  s4 a2 ((40 * a0) + a1) else if 0 ≤ (w32 a0) ∧ (w32 a0) < ((4 : Nat) : Int) then (if (w32 (s4 127 (Int.toNat (w32 a0)))) = 1 then d_x8_put_86 N  s4 (w32 a2) ((40 * a0) + a1) else d_x8_put_86 N  s4 (w32 (w8 a2)) ((40 * a0) + a1)) else none) else none) else none) else none)
set_option maxHeartbeats 4000000 in
set_option maxRecDepth 100000 in
theorem c_x8_put {sc : xS} {d : Nat} {R : Rs} (N : Nat)  (hd : 2 ≤ d)   (s : St) (a0 : Int) (a1 : Int) (a2 : Int) : d_x8_put N  s a0 a1 a2 = some R → vT sc d 179 0 [(0, .ref 77), (1, vi a0), (2, vi a1), (3, vl a2)] [] s (fun r => r = qI R) := by
  obtain ⟨d, rfl⟩ : ∃ d', d = d' + 1 := ⟨d - 1, by omega⟩
  unfold d_x8_put
  refine vLin 1 i179_0 rfl rfl ?_
  refine vCallI 4 [vi a0] [] [(0, vi a0)] i179_1 rfl (xlk1 l179_403) (Or.inr (Or.inl rfl)) m149 rfl rfl (Nat.le_of_ble_eq_true rfl) (Nat.le_of_ble_eq_true rfl) (Nat.le_of_ble_eq_true rfl) rfl rfl rfl (fun R1 => c_x8_isSheet N   (by omega) s a0) (fun s2 v3 => ?_)
  refine vZne 10 7 rfl i179_4 rfl rfl ?_ ?_
  · refine vLan 11 i179_10 rfl rfl ?_
    refine vGetC 14 i179_11 f179_163 sh_77 rfl rfl ?_
    refine vLin 15 i179_14 rfl rfl ?_
    refine vZal 16 rfl i179_15 sh_126 rfl ?_
    refine vZne 22 19 rfl i179_16 rfl rfl ?_ ?_
    · refine vLin 23 i179_22 rfl rfl ?_
      refine vI2l 24 i179_23 rfl ?_
      refine vKl 25 0 i179_24 (by decide) rfl ?_
      refine vLan 26 i179_25 rfl rfl ?_
      refine vGetC 29 i179_26 f179_169 sh_77 rfl rfl ?_
      refine vLin 30 i179_29 rfl rfl ?_
      refine vIal 31 rfl i179_30 sh_128 rfl ?_
      refine vK 32 i179_31 rfl ?_
      refine vIsub 33 i179_32 rfl ?_
      refine vI2l 34 i179_33 rfl ?_
      refine vCallI 37 [vl (w32 a1), vl 0, vl (w32 ((s2 128 (Int.toNat (w32 a0))) - 1))] [] [(0, vl (w32 a1)), (2, vl 0), (4, vl (w32 ((s2 128 (Int.toNat (w32 a0))) - 1)))] i179_34 rfl (xlk1 l179_177) (Or.inr (Or.inl rfl)) m142 rfl rfl (Nat.le_of_ble_eq_true rfl) (Nat.le_of_ble_eq_true rfl) (Nat.le_of_ble_eq_true rfl) rfl rfl rfl (fun R1 => c_x8_in N   (by omega) s2 (w32 a1) 0 (w32 ((s2 128 (Int.toNat (w32 a0))) - 1))) (fun s4 v5 => ?_)
      refine vZne 43 40 rfl i179_37 rfl rfl ?_ ?_
      · refine vLan 44 i179_43 rfl rfl ?_
        refine vGetC 47 i179_44 f179_172 sh_77 rfl rfl ?_
        refine vKb 49 i179_47 (by decide) rfl ?_
        refine vLin 50 i179_49 rfl rfl ?_
        refine vImul 51 i179_50 rfl ?_
        refine vLin 52 i179_51 rfl rfl ?_
        refine vIadd 53 i179_52 rfl ?_
        refine vLan 54 i179_53 rfl rfl ?_
        refine vGetC 57 i179_54 f179_166 sh_77 rfl rfl ?_
        refine vLin 58 i179_57 rfl rfl ?_
        refine vIal 59 rfl i179_58 sh_127 rfl ?_
        refine vZne 66 62 rfl i179_59 rfl rfl ?_ ?_
        · refine vLan 67 i179_66 rfl rfl ?_
          refine vGetC 70 i179_67 f179_166 sh_77 rfl rfl ?_
          refine vLin 71 i179_70 rfl rfl ?_
          refine vIal 72 rfl i179_71 sh_127 rfl ?_
          refine vK 73 i179_72 rfl ?_
          refine vCne 82 76 rfl (show w32 1 = 1 from rfl) i179_73 rfl rfl ?_ ?_
          · refine vLln 83 i179_82 rfl rfl ?_
            refine vL2i 84 i179_83 rfl ?_
            refine vI2b 85 i179_84 rfl ?_
            refine vI2l 86 i179_85 rfl ?_
            exact fun hD => tLc [] (xNdk [] rfl (by decide)) (xNdk [0, 1, 2, 3] rfl (by decide)) trivial (c_x8_put_86 N  hd  s4 (w32 (w8 a2)) ((40 * a0) + a1) hD)
          · refine vLln 77 i179_76 rfl rfl ?_
            refine vL2i 78 i179_77 rfl ?_
            refine vI2l 79 i179_78 rfl ?_
            refine vGo 86 i179_79 rfl ?_
            exact fun hD => tLc [] (xNdk [] rfl (by decide)) (xNdk [0, 1, 2, 3] rfl (by decide)) trivial (c_x8_put_86 N  hd  s4 (w32 a2) ((40 * a0) + a1) hD)
        · refine vLln 63 i179_62 rfl rfl ?_
          refine vGo 86 i179_63 rfl ?_
          exact fun hD => tLc [] (xNdk [] rfl (by decide)) (xNdk [0, 1, 2, 3] rfl (by decide)) trivial (c_x8_put_86 N  hd  s4 a2 ((40 * a0) + a1) hD)
      · refine vKb 42 i179_40 (by decide) rfl ?_
        exact vRi i179_42 m179 rfl
    · refine vKb 21 i179_19 (by decide) rfl ?_
      exact vRi i179_21 m179 rfl
  · refine vKb 9 i179_7 (by decide) rfl ?_
    exact vRi i179_9 m179 rfl
theorem f155_163 : xFld xg 155 163 = some (7, 65) := by decide +kernel
theorem f155_169 : xFld xg 155 169 = some (7, 67) := by decide +kernel
theorem f155_172 : xFld xg 155 172 = some (7, 68) := by decide +kernel
theorem i155_0 : xIns xg 155 0 = some (.iload_n 1) := by decide +kernel
theorem i155_1 : xIns xg 155 1 = some (.invokestatic 403) := by decide +kernel
theorem i155_4 : xIns xg 155 4 = some (.ifCond .eq 44) := by decide +kernel
theorem i155_48 : xIns xg 155 48 = some (.ldc2_w 285) := by decide +kernel
theorem c155_285 : xCon xg 155 285 = some (vl (-4611686018427387904)) := by decide +kernel
theorem i155_51 : xIns xg 155 51 = some (.lreturn) := by decide +kernel
theorem m155 : (xMet xg 155).2.2 = (3, (some .long)) := by decide +kernel
theorem i155_7 : xIns xg 155 7 = some (.aload_n 0) := by decide +kernel
theorem i155_8 : xIns xg 155 8 = some (.getfield 163) := by decide +kernel
theorem i155_11 : xIns xg 155 11 = some (.iload_n 1) := by decide +kernel
theorem i155_12 : xIns xg 155 12 = some (.baload) := by decide +kernel
theorem i155_13 : xIns xg 155 13 = some (.ifCond .eq 35) := by decide +kernel
theorem i155_16 : xIns xg 155 16 = some (.iload_n 2) := by decide +kernel
theorem i155_17 : xIns xg 155 17 = some (.i2l) := by decide +kernel
theorem i155_18 : xIns xg 155 18 = some (.lconst 0) := by decide +kernel
theorem i155_19 : xIns xg 155 19 = some (.aload_n 0) := by decide +kernel
theorem i155_20 : xIns xg 155 20 = some (.getfield 169) := by decide +kernel
theorem i155_23 : xIns xg 155 23 = some (.iload_n 1) := by decide +kernel
theorem i155_24 : xIns xg 155 24 = some (.iaload) := by decide +kernel
theorem i155_25 : xIns xg 155 25 = some (.iconst 1) := by decide +kernel
theorem i155_26 : xIns xg 155 26 = some (.isub) := by decide +kernel
theorem i155_27 : xIns xg 155 27 = some (.i2l) := by decide +kernel
theorem i155_28 : xIns xg 155 28 = some (.invokestatic 177) := by decide +kernel
theorem i155_31 : xIns xg 155 31 = some (.ifCond .eq 17) := by decide +kernel
theorem i155_34 : xIns xg 155 34 = some (.aload_n 0) := by decide +kernel
theorem i155_35 : xIns xg 155 35 = some (.getfield 172) := by decide +kernel
theorem i155_38 : xIns xg 155 38 = some (.bipush 40) := by decide +kernel
theorem i155_40 : xIns xg 155 40 = some (.iload_n 1) := by decide +kernel
theorem i155_41 : xIns xg 155 41 = some (.imul) := by decide +kernel
theorem i155_42 : xIns xg 155 42 = some (.iload_n 2) := by decide +kernel
theorem i155_43 : xIns xg 155 43 = some (.iadd) := by decide +kernel
theorem i155_44 : xIns xg 155 44 = some (.laload) := by decide +kernel
theorem i155_45 : xIns xg 155 45 = some (.goto 6) := by decide +kernel
def d_x8_item (N : Nat)  (s : St) (a0 : Int) (a1 : Int) : Option Rs :=
  bI (d_x8_isSheet N  s a0) fun s1 v2 => (if (w32 v2) = 0 then some (s1, (-4611686018427387904)) else if 0 ≤ (w32 a0) ∧ (w32 a0) < ((4 : Nat) : Int) then (if (w32 (s1 126 (Int.toNat (w32 a0)))) = 0 then some (s1, (-4611686018427387904)) else if 0 ≤ (w32 a0) ∧ (w32 a0) < ((4 : Nat) : Int) then bI (d_x8_in N  s1 (w32 a1) 0 (w32 ((s1 128 (Int.toNat (w32 a0))) - 1))) fun s3 v4 => (if (w32 v4) = 0 then some (s3, (-4611686018427387904)) else if 0 ≤ (w32 ((40 * a0) + a1)) ∧ (w32 ((40 * a0) + a1)) < ((160 : Nat) : Int) then some (s3, (s3 129 (Int.toNat (w32 ((40 * a0) + a1))))) else none) else none) else none)
set_option maxHeartbeats 4000000 in
set_option maxRecDepth 100000 in
theorem c_x8_item {sc : xS} {d : Nat} {R : Rs} (N : Nat)  (hd : 2 ≤ d)   (s : St) (a0 : Int) (a1 : Int) : d_x8_item N  s a0 a1 = some R → vT sc d 155 0 [(0, .ref 77), (1, vi a0), (2, vi a1)] [] s (fun r => r = qL R) := by
  obtain ⟨d, rfl⟩ : ∃ d', d = d' + 1 := ⟨d - 1, by omega⟩
  unfold d_x8_item
  refine vLin 1 i155_0 rfl rfl ?_
  refine vCallI 4 [vi a0] [] [(0, vi a0)] i155_1 rfl (xlk1 l155_403) (Or.inr (Or.inl rfl)) m149 rfl rfl (Nat.le_of_ble_eq_true rfl) (Nat.le_of_ble_eq_true rfl) (Nat.le_of_ble_eq_true rfl) rfl rfl rfl (fun R1 => c_x8_isSheet N   (by omega) s a0) (fun s1 v2 => ?_)
  refine vZeq 48 7 rfl i155_4 rfl rfl ?_ ?_
  · refine vKd 51 i155_48 c155_285 rfl ?_
    exact vRl i155_51 m155
  · refine vLan 8 i155_7 rfl rfl ?_
    refine vGetC 11 i155_8 f155_163 sh_77 rfl rfl ?_
    refine vLin 12 i155_11 rfl rfl ?_
    refine vZal 13 rfl i155_12 sh_126 rfl ?_
    refine vZeq 48 16 rfl i155_13 rfl rfl ?_ ?_
    · refine vKd 51 i155_48 c155_285 rfl ?_
      exact vRl i155_51 m155
    · refine vLin 17 i155_16 rfl rfl ?_
      refine vI2l 18 i155_17 rfl ?_
      refine vKl 19 0 i155_18 (by decide) rfl ?_
      refine vLan 20 i155_19 rfl rfl ?_
      refine vGetC 23 i155_20 f155_169 sh_77 rfl rfl ?_
      refine vLin 24 i155_23 rfl rfl ?_
      refine vIal 25 rfl i155_24 sh_128 rfl ?_
      refine vK 26 i155_25 rfl ?_
      refine vIsub 27 i155_26 rfl ?_
      refine vI2l 28 i155_27 rfl ?_
      refine vCallI 31 [vl (w32 a1), vl 0, vl (w32 ((s1 128 (Int.toNat (w32 a0))) - 1))] [] [(0, vl (w32 a1)), (2, vl 0), (4, vl (w32 ((s1 128 (Int.toNat (w32 a0))) - 1)))] i155_28 rfl (xlk1 l155_177) (Or.inr (Or.inl rfl)) m142 rfl rfl (Nat.le_of_ble_eq_true rfl) (Nat.le_of_ble_eq_true rfl) (Nat.le_of_ble_eq_true rfl) rfl rfl rfl (fun R1 => c_x8_in N   (by omega) s1 (w32 a1) 0 (w32 ((s1 128 (Int.toNat (w32 a0))) - 1))) (fun s3 v4 => ?_)
      refine vZeq 48 34 rfl i155_31 rfl rfl ?_ ?_
      · refine vKd 51 i155_48 c155_285 rfl ?_
        exact vRl i155_51 m155
      · refine vLan 35 i155_34 rfl rfl ?_
        refine vGetC 38 i155_35 f155_172 sh_77 rfl rfl ?_
        refine vKb 40 i155_38 (by decide) rfl ?_
        refine vLin 41 i155_40 rfl rfl ?_
        refine vImul 42 i155_41 rfl ?_
        refine vLin 43 i155_42 rfl rfl ?_
        refine vIadd 44 i155_43 rfl ?_
        refine vLal 45 rfl i155_44 sh_129 rfl ?_
        refine vGo 51 i155_45 rfl ?_
        exact vRl i155_51 m155
theorem f123_163 : xFld xg 123 163 = some (7, 65) := by decide +kernel
theorem f123_166 : xFld xg 123 166 = some (7, 66) := by decide +kernel
theorem f123_169 : xFld xg 123 169 = some (7, 67) := by decide +kernel
theorem f123_172 : xFld xg 123 172 = some (7, 68) := by decide +kernel
theorem i123_145 : xIns xg 123 145 = some (.istore 8) := by decide +kernel
theorem m123 : (xMet xg 123).2.2 = (9, (some .int)) := by decide +kernel
theorem i123_147 : xIns xg 123 147 = some (.aload_n 0) := by decide +kernel
theorem i123_148 : xIns xg 123 148 = some (.getfield 172) := by decide +kernel
theorem i123_151 : xIns xg 123 151 = some (.bipush 40) := by decide +kernel
theorem i123_153 : xIns xg 123 153 = some (.iload_n 3) := by decide +kernel
theorem i123_154 : xIns xg 123 154 = some (.imul) := by decide +kernel
theorem i123_155 : xIns xg 123 155 = some (.iload 4) := by decide +kernel
theorem i123_157 : xIns xg 123 157 = some (.iadd) := by decide +kernel
theorem i123_158 : xIns xg 123 158 = some (.iload 8) := by decide +kernel
theorem i123_160 : xIns xg 123 160 = some (.iadd) := by decide +kernel
theorem i123_161 : xIns xg 123 161 = some (.aload_n 0) := by decide +kernel
theorem i123_162 : xIns xg 123 162 = some (.getfield 172) := by decide +kernel
theorem i123_165 : xIns xg 123 165 = some (.bipush 40) := by decide +kernel
theorem i123_167 : xIns xg 123 167 = some (.iload_n 1) := by decide +kernel
theorem i123_168 : xIns xg 123 168 = some (.imul) := by decide +kernel
theorem i123_169 : xIns xg 123 169 = some (.iload_n 2) := by decide +kernel
theorem i123_170 : xIns xg 123 170 = some (.iadd) := by decide +kernel
theorem i123_171 : xIns xg 123 171 = some (.iload 8) := by decide +kernel
theorem i123_173 : xIns xg 123 173 = some (.iadd) := by decide +kernel
theorem i123_174 : xIns xg 123 174 = some (.laload) := by decide +kernel
theorem i123_175 : xIns xg 123 175 = some (.lastore) := by decide +kernel
theorem i123_176 : xIns xg 123 176 = some (.iinc 7 1) := by decide +kernel
theorem i123_179 : xIns xg 123 179 = some (.goto (-58)) := by decide +kernel
theorem i123_121 : xIns xg 123 121 = some (.iload 7) := by decide +kernel
theorem i123_123 : xIns xg 123 123 = some (.iload 5) := by decide +kernel
theorem i123_125 : xIns xg 123 125 = some (.if_icmp .ge 57) := by decide +kernel
theorem i123_182 : xIns xg 123 182 = some (.iload 5) := by decide +kernel
theorem i123_184 : xIns xg 123 184 = some (.ireturn) := by decide +kernel
theorem i123_128 : xIns xg 123 128 = some (.iload 6) := by decide +kernel
theorem i123_130 : xIns xg 123 130 = some (.ifCond .eq 13) := by decide +kernel
theorem i123_143 : xIns xg 123 143 = some (.iload 7) := by decide +kernel
theorem i123_133 : xIns xg 123 133 = some (.iload 5) := by decide +kernel
theorem i123_135 : xIns xg 123 135 = some (.iconst 1) := by decide +kernel
theorem i123_136 : xIns xg 123 136 = some (.isub) := by decide +kernel
theorem i123_137 : xIns xg 123 137 = some (.iload 7) := by decide +kernel
theorem i123_139 : xIns xg 123 139 = some (.isub) := by decide +kernel
theorem i123_140 : xIns xg 123 140 = some (.goto 5) := by decide +kernel
theorem i123_116 : xIns xg 123 116 = some (.istore 6) := by decide +kernel
theorem i123_118 : xIns xg 123 118 = some (.iconst 0) := by decide +kernel
theorem i123_119 : xIns xg 123 119 = some (.istore 7) := by decide +kernel
theorem i123_115 : xIns xg 123 115 = some (.iconst 0) := by decide +kernel
theorem i123_0 : xIns xg 123 0 = some (.iload_n 1) := by decide +kernel
theorem i123_1 : xIns xg 123 1 = some (.invokestatic 403) := by decide +kernel
theorem i123_4 : xIns xg 123 4 = some (.ifCond .eq 10) := by decide +kernel
theorem i123_14 : xIns xg 123 14 = some (.bipush (-2)) := by decide +kernel
theorem i123_16 : xIns xg 123 16 = some (.ireturn) := by decide +kernel
theorem i123_7 : xIns xg 123 7 = some (.iload_n 3) := by decide +kernel
theorem i123_8 : xIns xg 123 8 = some (.invokestatic 403) := by decide +kernel
theorem i123_11 : xIns xg 123 11 = some (.ifCond .ne 6) := by decide +kernel
theorem i123_17 : xIns xg 123 17 = some (.aload_n 0) := by decide +kernel
theorem i123_18 : xIns xg 123 18 = some (.getfield 163) := by decide +kernel
theorem i123_21 : xIns xg 123 21 = some (.iload_n 1) := by decide +kernel
theorem i123_22 : xIns xg 123 22 = some (.baload) := by decide +kernel
theorem i123_23 : xIns xg 123 23 = some (.ifCond .eq 12) := by decide +kernel
theorem i123_35 : xIns xg 123 35 = some (.bipush (-11)) := by decide +kernel
theorem i123_37 : xIns xg 123 37 = some (.ireturn) := by decide +kernel
theorem i123_26 : xIns xg 123 26 = some (.aload_n 0) := by decide +kernel
theorem i123_27 : xIns xg 123 27 = some (.getfield 163) := by decide +kernel
theorem i123_30 : xIns xg 123 30 = some (.iload_n 3) := by decide +kernel
theorem i123_31 : xIns xg 123 31 = some (.baload) := by decide +kernel
theorem i123_32 : xIns xg 123 32 = some (.ifCond .ne 6) := by decide +kernel
theorem i123_38 : xIns xg 123 38 = some (.aload_n 0) := by decide +kernel
theorem i123_39 : xIns xg 123 39 = some (.getfield 166) := by decide +kernel
theorem i123_42 : xIns xg 123 42 = some (.iload_n 1) := by decide +kernel
theorem i123_43 : xIns xg 123 43 = some (.iaload) := by decide +kernel
theorem i123_44 : xIns xg 123 44 = some (.aload_n 0) := by decide +kernel
theorem i123_45 : xIns xg 123 45 = some (.getfield 166) := by decide +kernel
theorem i123_48 : xIns xg 123 48 = some (.iload_n 3) := by decide +kernel
theorem i123_49 : xIns xg 123 49 = some (.iaload) := by decide +kernel
theorem i123_50 : xIns xg 123 50 = some (.if_icmp .eq 6) := by decide +kernel
theorem i123_56 : xIns xg 123 56 = some (.iload 5) := by decide +kernel
theorem i123_58 : xIns xg 123 58 = some (.ifCond .lt 39) := by decide +kernel
theorem i123_97 : xIns xg 123 97 = some (.bipush (-12)) := by decide +kernel
theorem i123_99 : xIns xg 123 99 = some (.ireturn) := by decide +kernel
theorem i123_61 : xIns xg 123 61 = some (.iload_n 2) := by decide +kernel
theorem i123_62 : xIns xg 123 62 = some (.ifCond .lt 35) := by decide +kernel
theorem i123_65 : xIns xg 123 65 = some (.iload 4) := by decide +kernel
theorem i123_67 : xIns xg 123 67 = some (.ifCond .lt 30) := by decide +kernel
theorem i123_70 : xIns xg 123 70 = some (.iload_n 2) := by decide +kernel
theorem i123_71 : xIns xg 123 71 = some (.aload_n 0) := by decide +kernel
theorem i123_72 : xIns xg 123 72 = some (.getfield 169) := by decide +kernel
theorem i123_75 : xIns xg 123 75 = some (.iload_n 1) := by decide +kernel
theorem i123_76 : xIns xg 123 76 = some (.iaload) := by decide +kernel
theorem i123_77 : xIns xg 123 77 = some (.iload 5) := by decide +kernel
theorem i123_79 : xIns xg 123 79 = some (.isub) := by decide +kernel
theorem i123_80 : xIns xg 123 80 = some (.if_icmp .gt 17) := by decide +kernel
theorem i123_83 : xIns xg 123 83 = some (.iload 4) := by decide +kernel
theorem i123_85 : xIns xg 123 85 = some (.aload_n 0) := by decide +kernel
theorem i123_86 : xIns xg 123 86 = some (.getfield 169) := by decide +kernel
theorem i123_89 : xIns xg 123 89 = some (.iload_n 3) := by decide +kernel
theorem i123_90 : xIns xg 123 90 = some (.iaload) := by decide +kernel
theorem i123_91 : xIns xg 123 91 = some (.iload 5) := by decide +kernel
theorem i123_93 : xIns xg 123 93 = some (.isub) := by decide +kernel
theorem i123_94 : xIns xg 123 94 = some (.if_icmp .le 6) := by decide +kernel
theorem i123_100 : xIns xg 123 100 = some (.iload_n 1) := by decide +kernel
theorem i123_101 : xIns xg 123 101 = some (.iload_n 3) := by decide +kernel
theorem i123_102 : xIns xg 123 102 = some (.if_icmp .ne 13) := by decide +kernel
theorem i123_105 : xIns xg 123 105 = some (.iload_n 2) := by decide +kernel
theorem i123_106 : xIns xg 123 106 = some (.iload 4) := by decide +kernel
theorem i123_108 : xIns xg 123 108 = some (.if_icmp .ge 7) := by decide +kernel
theorem i123_111 : xIns xg 123 111 = some (.iconst 1) := by decide +kernel
theorem i123_112 : xIns xg 123 112 = some (.goto 4) := by decide +kernel
theorem i123_53 : xIns xg 123 53 = some (.bipush (-13)) := by decide +kernel
theorem i123_55 : xIns xg 123 55 = some (.ireturn) := by decide +kernel
def d_x8_copy_145 (N : Nat) (k121 : St → Int → Int → Int → Int → Int → Int → Int → Option Rs) (s : St) (x1 : Int) (x2 : Int) (x3 : Int) (x4 : Int) (x5 : Int) (x6 : Int) (x7 : Int) (z0 : Int) : Option Rs :=
  if 0 ≤ (w32 (((40 * x1) + x2) + z0)) ∧ (w32 (((40 * x1) + x2) + z0)) < ((160 : Nat) : Int) then if 0 ≤ (w32 (((40 * x3) + x4) + z0)) ∧ (w32 (((40 * x3) + x4) + z0)) < ((160 : Nat) : Int) then bd (up s 129 (Int.toNat (w32 (((40 * x3) + x4) + z0))) (s 129 (Int.toNat (w32 (((40 * x1) + x2) + z0))))) fun s1 => bd (x7 + 1) fun v2 => k121 s1 x1 x2 x3 x4 x5 x6 v2 else none else none
set_option maxHeartbeats 4000000 in
set_option maxRecDepth 100000 in
theorem c_x8_copy_145 {sc : xS} {d : Nat} {R : Rs} (N : Nat)  (hd : 2 ≤ d) (k121 : St → Int → Int → Int → Int → Int → Int → Int → Option Rs) (hk121 : ∀ (s : St) (x1 : Int) (x2 : Int) (x3 : Int) (x4 : Int) (x5 : Int) (x6 : Int) (x7 : Int), k121 s x1 x2 x3 x4 x5 x6 x7 = some R → vT sc d 123 121 [(0, .ref 77), (1, vi x1), (2, vi x2), (3, vi x3), (4, vi x4), (5, vi x5), (6, vi x6), (7, vi x7)] [] s (fun r => r = qI R))  (s : St) (x1 : Int) (x2 : Int) (x3 : Int) (x4 : Int) (x5 : Int) (x6 : Int) (x7 : Int) (z0 : Int) : d_x8_copy_145 N k121 s x1 x2 x3 x4 x5 x6 x7 z0 = some R → vT sc d 123 145 [(0, .ref 77), (1, vi x1), (2, vi x2), (3, vi x3), (4, vi x4), (5, vi x5), (6, vi x6), (7, vi x7)] [vi z0] s (fun r => r = qI R) := by
  obtain ⟨d, rfl⟩ : ∃ d', d = d' + 1 := ⟨d - 1, by omega⟩
  unfold d_x8_copy_145
  refine vSi0 147 [(8, vi z0), (0, .ref 77), (1, vi x1), (2, vi x2), (3, vi x3), (4, vi x4), (5, vi x5), (6, vi x6), (7, vi x7)] i123_145 m123 (by decide) rfl rfl ?_
  refine vLan 148 i123_147 rfl rfl ?_
  refine vGetC 151 i123_148 f123_172 sh_77 rfl rfl ?_
  refine vKb 153 i123_151 (by decide) rfl ?_
  refine vLin 154 i123_153 rfl rfl ?_
  refine vImul 155 i123_154 rfl ?_
  refine vLi 157 i123_155 rfl rfl ?_
  refine vIadd 158 i123_157 rfl ?_
  refine vLi 160 i123_158 rfl rfl ?_
  refine vIadd 161 i123_160 rfl ?_
  refine vLan 162 i123_161 rfl rfl ?_
  refine vGetC 165 i123_162 f123_172 sh_77 rfl rfl ?_
  refine vKb 167 i123_165 (by decide) rfl ?_
  refine vLin 168 i123_167 rfl rfl ?_
  refine vImul 169 i123_168 rfl ?_
  refine vLin 170 i123_169 rfl rfl ?_
  refine vIadd 171 i123_170 rfl ?_
  refine vLi 173 i123_171 rfl rfl ?_
  refine vIadd 174 i123_173 rfl ?_
  refine vLal 175 rfl i123_174 sh_129 rfl ?_
  refine vLas 176 rfl i123_175 sh_129 rfl (fun s1 => ?_)
  refine vInc 179 (fun v2 => [(7, vi v2), (8, vi z0), (0, .ref 77), (1, vi x1), (2, vi x2), (3, vi x3), (4, vi x4), (5, vi x5), (6, vi x6)]) i123_176 m123 (by decide) rfl (fun _ => rfl) rfl (fun v2 => ?_)
  refine vGo 121 i123_179 rfl ?_
  exact fun hD => tLc [(0, .ref 77), (1, vi x1), (2, vi x2), (3, vi x3), (4, vi x4), (5, vi x5), (6, vi x6), (7, vi v2)] (xNdk [0, 1, 2, 3, 4, 5, 6, 7] rfl (by decide)) (xNdk [7, 8, 0, 1, 2, 3, 4, 5, 6] rfl (by decide)) ⟨rfl, rfl, rfl, rfl, rfl, rfl, rfl, rfl, trivial⟩ (hk121 s1 x1 x2 x3 x4 x5 x6 v2 hD)
def d_x8_copy_121 (N : Nat)  (k121 : St → Int → Int → Int → Int → Int → Int → Int → Option Rs) (s : St) (x1 : Int) (x2 : Int) (x3 : Int) (x4 : Int) (x5 : Int) (x6 : Int) (x7 : Int) : Option Rs :=
  (if (w32 x7) < (w32 x5) then (if (w32 x6) = 0 then d_x8_copy_145 N k121 s x1 x2 x3 x4 x5 x6 x7 x7 else d_x8_copy_145 N k121 s x1 x2 x3 x4 x5 x6 x7 ((x5 - 1) - x7)) else some (s, x5))
def d_x8_copy_121L (N : Nat)  : Nat → St → Int → Int → Int → Int → Int → Int → Int → Option Rs
  | 0 => fun _ _ _ _ _ _ _ _ => none
  | n + 1 => d_x8_copy_121 N  (d_x8_copy_121L N  n)
set_option maxHeartbeats 4000000 in
set_option maxRecDepth 100000 in
theorem c_x8_copy_121 {sc : xS} {d : Nat} {R : Rs} (N : Nat)  (hd : 2 ≤ d)   (k121 : St → Int → Int → Int → Int → Int → Int → Int → Option Rs) (hk121 : ∀ (s : St) (x1 : Int) (x2 : Int) (x3 : Int) (x4 : Int) (x5 : Int) (x6 : Int) (x7 : Int), k121 s x1 x2 x3 x4 x5 x6 x7 = some R → vT sc d 123 121 [(0, .ref 77), (1, vi x1), (2, vi x2), (3, vi x3), (4, vi x4), (5, vi x5), (6, vi x6), (7, vi x7)] [] s (fun r => r = qI R)) (s : St) (x1 : Int) (x2 : Int) (x3 : Int) (x4 : Int) (x5 : Int) (x6 : Int) (x7 : Int) : d_x8_copy_121 N  k121 s x1 x2 x3 x4 x5 x6 x7 = some R → vT sc d 123 121 [(0, .ref 77), (1, vi x1), (2, vi x2), (3, vi x3), (4, vi x4), (5, vi x5), (6, vi x6), (7, vi x7)] [] s (fun r => r = qI R) := by
  obtain ⟨d, rfl⟩ : ∃ d', d = d' + 1 := ⟨d - 1, by omega⟩
  unfold d_x8_copy_121
  refine vLi 123 i123_121 rfl rfl ?_
  refine vLi 125 i123_123 rfl rfl ?_
  refine vCge 182 128 rfl rfl i123_125 rfl rfl ?_ ?_
  · refine vLi 184 i123_182 rfl rfl ?_
    exact vRi i123_184 m123 rfl
  · refine vLi 130 i123_128 rfl rfl ?_
    refine vZeq 143 133 rfl i123_130 rfl rfl ?_ ?_
    · refine vLi 145 i123_143 rfl rfl ?_
      exact fun hD => c_x8_copy_145 N  hd k121 hk121 s x1 x2 x3 x4 x5 x6 x7 x7 hD
    · refine vLi 135 i123_133 rfl rfl ?_
      refine vK 136 i123_135 rfl ?_
      refine vIsub 137 i123_136 rfl ?_
      refine vLi 139 i123_137 rfl rfl ?_
      refine vIsub 140 i123_139 rfl ?_
      refine vGo 145 i123_140 rfl ?_
      exact fun hD => c_x8_copy_145 N  hd k121 hk121 s x1 x2 x3 x4 x5 x6 x7 ((x5 - 1) - x7) hD
theorem c_x8_copy_121L {sc : xS} {d : Nat} {R : Rs} (N : Nat)  (hd : 2 ≤ d)   : ∀ (n : Nat) (s : St) (x1 : Int) (x2 : Int) (x3 : Int) (x4 : Int) (x5 : Int) (x6 : Int) (x7 : Int), d_x8_copy_121L N  n s x1 x2 x3 x4 x5 x6 x7 = some R → vT sc d 123 121 [(0, .ref 77), (1, vi x1), (2, vi x2), (3, vi x3), (4, vi x4), (5, vi x5), (6, vi x6), (7, vi x7)] [] s (fun r => r = qI R) := by
  intro n
  induction n with
  | zero => intro s x1 x2 x3 x4 x5 x6 x7 hD; cases hD
  | succ n ih => intro s x1 x2 x3 x4 x5 x6 x7 hD; exact c_x8_copy_121 N  hd  _ ih s x1 x2 x3 x4 x5 x6 x7 hD
def d_x8_copy_116 (N : Nat)  (s : St) (x1 : Int) (x2 : Int) (x3 : Int) (x4 : Int) (x5 : Int) (z0 : Int) : Option Rs :=
  d_x8_copy_121L N  N s x1 x2 x3 x4 x5 z0 0
set_option maxHeartbeats 4000000 in
set_option maxRecDepth 100000 in
theorem c_x8_copy_116 {sc : xS} {d : Nat} {R : Rs} (N : Nat)  (hd : 2 ≤ d)   (s : St) (x1 : Int) (x2 : Int) (x3 : Int) (x4 : Int) (x5 : Int) (z0 : Int) : d_x8_copy_116 N  s x1 x2 x3 x4 x5 z0 = some R → vT sc d 123 116 [(0, .ref 77), (1, vi x1), (2, vi x2), (3, vi x3), (4, vi x4), (5, vi x5)] [vi z0] s (fun r => r = qI R) := by
  obtain ⟨d, rfl⟩ : ∃ d', d = d' + 1 := ⟨d - 1, by omega⟩
  unfold d_x8_copy_116
  refine vSi0 118 [(6, vi z0), (0, .ref 77), (1, vi x1), (2, vi x2), (3, vi x3), (4, vi x4), (5, vi x5)] i123_116 m123 (by decide) rfl rfl ?_
  refine vK 119 i123_118 rfl ?_
  refine vSi0 121 [(7, vi 0), (6, vi z0), (0, .ref 77), (1, vi x1), (2, vi x2), (3, vi x3), (4, vi x4), (5, vi x5)] i123_119 m123 (by decide) rfl rfl ?_
  exact fun hD => tLc [(0, .ref 77), (1, vi x1), (2, vi x2), (3, vi x3), (4, vi x4), (5, vi x5), (6, vi z0), (7, vi 0)] (xNdk [0, 1, 2, 3, 4, 5, 6, 7] rfl (by decide)) (xNdk [7, 6, 0, 1, 2, 3, 4, 5] rfl (by decide)) ⟨rfl, rfl, rfl, rfl, rfl, rfl, rfl, rfl, trivial⟩ (c_x8_copy_121L N  hd  N s x1 x2 x3 x4 x5 z0 0 hD)
def d_x8_copy_115 (N : Nat)  (s : St) (x1 : Int) (x2 : Int) (x3 : Int) (x4 : Int) (x5 : Int) : Option Rs :=
  d_x8_copy_116 N  s x1 x2 x3 x4 x5 0
set_option maxHeartbeats 4000000 in
set_option maxRecDepth 100000 in
theorem c_x8_copy_115 {sc : xS} {d : Nat} {R : Rs} (N : Nat)  (hd : 2 ≤ d)   (s : St) (x1 : Int) (x2 : Int) (x3 : Int) (x4 : Int) (x5 : Int) : d_x8_copy_115 N  s x1 x2 x3 x4 x5 = some R → vT sc d 123 115 [(0, .ref 77), (1, vi x1), (2, vi x2), (3, vi x3), (4, vi x4), (5, vi x5)] [] s (fun r => r = qI R) := by
  obtain ⟨d, rfl⟩ : ∃ d', d = d' + 1 := ⟨d - 1, by omega⟩
  unfold d_x8_copy_115
  refine vK 116 i123_115 rfl ?_
  exact fun hD => c_x8_copy_116 N  hd  s x1 x2 x3 x4 x5 0 hD
def d_x8_copy (N : Nat)  (s : St) (a0 : Int) (a1 : Int) (a2 : Int) (a3 : Int) (a4 : Int) : Option Rs :=
  bI (d_x8_isSheet N  s a0) fun s3 v4 => (if (w32 v4) = 0 then some (s3, (-2)) else bI (d_x8_isSheet N  s3 a2) fun s5 v6 => (if (w32 v6) = 0 then some (s5, (-2)) else if 0 ≤ (w32 a0) ∧ (w32 a0) < ((4 : Nat) : Int) then (if (w32 (s5 126 (Int.toNat (w32 a0)))) = 0 then some (s5, (-11)) else if 0 ≤ (w32 a2) ∧ (w32 a2) < ((4 : Nat) : Int) then (if (w32 (s5 126 (Int.toNat (w32 a2)))) = 0 then some (s5, (-11)) else if 0 ≤ (w32 a0) ∧ (w32 a0) < ((4 : Nat) : Int) then if 0 ≤ (w32 a2) ∧ (w32 a2) < ((4 : Nat) : Int) then (if (w32 (s5 127 (Int.toNat (w32 a0)))) = (w32 (s5 127 (Int.toNat (w32 a2)))) then (if (w32 a4) < 0 then some (s5, (-12)) else (if (w32 a1) < 0 then some (s5, (-12)) else (if (w32 a3) < 0 then some (s5, (-12)) else if 0 ≤ (w32 a0) ∧ (w32 a0) < ((4 : Nat) : Int) then (if (w32 ((s5 128 (Int.toNat (w32 a0))) - a4)) < (w32 a1) then some (s5, (-12)) else if 0 ≤ (w32 a2) ∧ (w32 a2) < ((4 : Nat) : Int) then (if (w32 ((s5 128 (Int.toNat (w32 a2))) - a4)) < (w32 a3) then some (s5, (-12)) else (if (w32 a0) = (w32 a2) then (if (w32 a1) < (w32 a3) then d_x8_copy_116 N  s5 a0 a1 a2 a3 a4 1 else d_x8_copy_115 N  s5 a0 a1 a2 a3 a4) else d_x8_copy_115 N  s5 a0 a1 a2 a3 a4)) else none) else none))) else some (s5, (-13))) else none else none) else none) else none))
set_option maxHeartbeats 4000000 in
set_option maxRecDepth 100000 in
theorem c_x8_copy {sc : xS} {d : Nat} {R : Rs} (N : Nat)  (hd : 2 ≤ d)   (s : St) (a0 : Int) (a1 : Int) (a2 : Int) (a3 : Int) (a4 : Int) : d_x8_copy N  s a0 a1 a2 a3 a4 = some R → vT sc d 123 0 [(0, .ref 77), (1, vi a0), (2, vi a1), (3, vi a2), (4, vi a3), (5, vi a4)] [] s (fun r => r = qI R) := by
  obtain ⟨d, rfl⟩ : ∃ d', d = d' + 1 := ⟨d - 1, by omega⟩
  unfold d_x8_copy
  refine vLin 1 i123_0 rfl rfl ?_
  refine vCallI 4 [vi a0] [] [(0, vi a0)] i123_1 rfl (xlk1 l123_403) (Or.inr (Or.inl rfl)) m149 rfl rfl (Nat.le_of_ble_eq_true rfl) (Nat.le_of_ble_eq_true rfl) (Nat.le_of_ble_eq_true rfl) rfl rfl rfl (fun R1 => c_x8_isSheet N   (by omega) s a0) (fun s3 v4 => ?_)
  refine vZeq 14 7 rfl i123_4 rfl rfl ?_ ?_
  · refine vKb 16 i123_14 (by decide) rfl ?_
    exact vRi i123_16 m123 rfl
  · refine vLin 8 i123_7 rfl rfl ?_
    refine vCallI 11 [vi a2] [] [(0, vi a2)] i123_8 rfl (xlk1 l123_403) (Or.inr (Or.inl rfl)) m149 rfl rfl (Nat.le_of_ble_eq_true rfl) (Nat.le_of_ble_eq_true rfl) (Nat.le_of_ble_eq_true rfl) rfl rfl rfl (fun R1 => c_x8_isSheet N   (by omega) s3 a2) (fun s5 v6 => ?_)
    refine vZne 17 14 rfl i123_11 rfl rfl ?_ ?_
    · refine vLan 18 i123_17 rfl rfl ?_
      refine vGetC 21 i123_18 f123_163 sh_77 rfl rfl ?_
      refine vLin 22 i123_21 rfl rfl ?_
      refine vZal 23 rfl i123_22 sh_126 rfl ?_
      refine vZeq 35 26 rfl i123_23 rfl rfl ?_ ?_
      · refine vKb 37 i123_35 (by decide) rfl ?_
        exact vRi i123_37 m123 rfl
      · refine vLan 27 i123_26 rfl rfl ?_
        refine vGetC 30 i123_27 f123_163 sh_77 rfl rfl ?_
        refine vLin 31 i123_30 rfl rfl ?_
        refine vZal 32 rfl i123_31 sh_126 rfl ?_
        refine vZne 38 35 rfl i123_32 rfl rfl ?_ ?_
        · refine vLan 39 i123_38 rfl rfl ?_
          refine vGetC 42 i123_39 f123_166 sh_77 rfl rfl ?_
          refine vLin 43 i123_42 rfl rfl ?_
          refine vIal 44 rfl i123_43 sh_127 rfl ?_
          refine vLan 45 i123_44 rfl rfl ?_
          refine vGetC 48 i123_45 f123_166 sh_77 rfl rfl ?_
          refine vLin 49 i123_48 rfl rfl ?_
          refine vIal 50 rfl i123_49 sh_127 rfl ?_
          refine vCeq 56 53 rfl rfl i123_50 rfl rfl ?_ ?_
          · refine vLi 58 i123_56 rfl rfl ?_
            refine vZlt 97 61 rfl i123_58 rfl rfl ?_ ?_
            · refine vKb 99 i123_97 (by decide) rfl ?_
              exact vRi i123_99 m123 rfl
            · refine vLin 62 i123_61 rfl rfl ?_
              refine vZlt 97 65 rfl i123_62 rfl rfl ?_ ?_
              · refine vKb 99 i123_97 (by decide) rfl ?_
                exact vRi i123_99 m123 rfl
              · refine vLi 67 i123_65 rfl rfl ?_
                refine vZlt 97 70 rfl i123_67 rfl rfl ?_ ?_
                · refine vKb 99 i123_97 (by decide) rfl ?_
                  exact vRi i123_99 m123 rfl
                · refine vLin 71 i123_70 rfl rfl ?_
                  refine vLan 72 i123_71 rfl rfl ?_
                  refine vGetC 75 i123_72 f123_169 sh_77 rfl rfl ?_
                  refine vLin 76 i123_75 rfl rfl ?_
                  refine vIal 77 rfl i123_76 sh_128 rfl ?_
                  refine vLi 79 i123_77 rfl rfl ?_
                  refine vIsub 80 i123_79 rfl ?_
                  refine vCgt 97 83 rfl rfl i123_80 rfl rfl ?_ ?_
                  · refine vKb 99 i123_97 (by decide) rfl ?_
                    exact vRi i123_99 m123 rfl
                  · refine vLi 85 i123_83 rfl rfl ?_
                    refine vLan 86 i123_85 rfl rfl ?_
                    refine vGetC 89 i123_86 f123_169 sh_77 rfl rfl ?_
                    refine vLin 90 i123_89 rfl rfl ?_
                    refine vIal 91 rfl i123_90 sh_128 rfl ?_
                    refine vLi 93 i123_91 rfl rfl ?_
                    refine vIsub 94 i123_93 rfl ?_
                    refine vCle 100 97 rfl rfl i123_94 rfl rfl ?_ ?_
                    · refine vLin 101 i123_100 rfl rfl ?_
                      refine vLin 102 i123_101 rfl rfl ?_
                      refine vCne 115 105 rfl rfl i123_102 rfl rfl ?_ ?_
                      · exact fun hD => c_x8_copy_115 N  hd  s5 a0 a1 a2 a3 a4 hD
                      · refine vLin 106 i123_105 rfl rfl ?_
                        refine vLi 108 i123_106 rfl rfl ?_
                        refine vCge 115 111 rfl rfl i123_108 rfl rfl ?_ ?_
                        · exact fun hD => c_x8_copy_115 N  hd  s5 a0 a1 a2 a3 a4 hD
                        · refine vK 112 i123_111 rfl ?_
                          refine vGo 116 i123_112 rfl ?_
                          exact fun hD => c_x8_copy_116 N  hd  s5 a0 a1 a2 a3 a4 1 hD
                    · refine vKb 99 i123_97 (by decide) rfl ?_
                      exact vRi i123_99 m123 rfl
          · refine vKb 55 i123_53 (by decide) rfl ?_
            exact vRi i123_55 m123 rfl
        · refine vKb 37 i123_35 (by decide) rfl ?_
          exact vRi i123_37 m123 rfl
    · refine vKb 16 i123_14 (by decide) rfl ?_
      exact vRi i123_16 m123 rfl
theorem f160_163 : xFld xg 160 163 = some (7, 65) := by decide +kernel
theorem f160_169 : xFld xg 160 169 = some (7, 67) := by decide +kernel
theorem f160_13 : xFld xg 160 13 = some (7, 1) := by decide +kernel
theorem f160_17 : xFld xg 160 17 = some (7, 2) := by decide +kernel
theorem f160_20 : xFld xg 160 20 = some (7, 3) := by decide +kernel
theorem f160_23 : xFld xg 160 23 = some (7, 4) := by decide +kernel
theorem f160_33 : xFld xg 160 33 = some (7, 7) := by decide +kernel
theorem f160_36 : xFld xg 160 36 = some (7, 8) := by decide +kernel
theorem f160_172 : xFld xg 160 172 = some (7, 68) := by decide +kernel
theorem f160_166 : xFld xg 160 166 = some (7, 66) := by decide +kernel
theorem i160_147 : xIns xg 160 147 = some (.iload 7) := by decide +kernel
theorem i160_149 : xIns xg 160 149 = some (.iload 5) := by decide +kernel
theorem i160_151 : xIns xg 160 151 = some (.if_icmp .ge 37) := by decide +kernel
theorem i160_188 : xIns xg 160 188 = some (.aload_n 0) := by decide +kernel
theorem i160_189 : xIns xg 160 189 = some (.invokevirtual 269) := by decide +kernel
theorem i160_192 : xIns xg 160 192 = some (.iload 5) := by decide +kernel
theorem i160_194 : xIns xg 160 194 = some (.ireturn) := by decide +kernel
theorem m160 : (xMet xg 160).2.2 = (8, (some .int)) := by decide +kernel
theorem i160_154 : xIns xg 160 154 = some (.aload_n 0) := by decide +kernel
theorem i160_155 : xIns xg 160 155 = some (.getfield 36) := by decide +kernel
theorem i160_158 : xIns xg 160 158 = some (.bipush 8) := by decide +kernel
theorem i160_160 : xIns xg 160 160 = some (.iload 6) := by decide +kernel
theorem i160_162 : xIns xg 160 162 = some (.imul) := by decide +kernel
theorem i160_163 : xIns xg 160 163 = some (.iload 7) := by decide +kernel
theorem i160_165 : xIns xg 160 165 = some (.iadd) := by decide +kernel
theorem i160_166 : xIns xg 160 166 = some (.aload_n 0) := by decide +kernel
theorem i160_167 : xIns xg 160 167 = some (.getfield 172) := by decide +kernel
theorem i160_170 : xIns xg 160 170 = some (.bipush 40) := by decide +kernel
theorem i160_172 : xIns xg 160 172 = some (.iload_n 1) := by decide +kernel
theorem i160_173 : xIns xg 160 173 = some (.imul) := by decide +kernel
theorem i160_174 : xIns xg 160 174 = some (.iload 4) := by decide +kernel
theorem i160_176 : xIns xg 160 176 = some (.iadd) := by decide +kernel
theorem i160_177 : xIns xg 160 177 = some (.iload 7) := by decide +kernel
theorem i160_179 : xIns xg 160 179 = some (.iadd) := by decide +kernel
theorem i160_180 : xIns xg 160 180 = some (.laload) := by decide +kernel
theorem i160_181 : xIns xg 160 181 = some (.lastore) := by decide +kernel
theorem i160_182 : xIns xg 160 182 = some (.iinc 7 1) := by decide +kernel
theorem i160_185 : xIns xg 160 185 = some (.goto (-38)) := by decide +kernel
theorem i160_64 : xIns xg 160 64 = some (.aload_n 0) := by decide +kernel
theorem i160_65 : xIns xg 160 65 = some (.getfield 163) := by decide +kernel
theorem i160_68 : xIns xg 160 68 = some (.iload_n 1) := by decide +kernel
theorem i160_69 : xIns xg 160 69 = some (.baload) := by decide +kernel
theorem i160_70 : xIns xg 160 70 = some (.ifCond .ne 6) := by decide +kernel
theorem i160_76 : xIns xg 160 76 = some (.iload 4) := by decide +kernel
theorem i160_78 : xIns xg 160 78 = some (.ifCond .lt 17) := by decide +kernel
theorem i160_95 : xIns xg 160 95 = some (.bipush (-12)) := by decide +kernel
theorem i160_97 : xIns xg 160 97 = some (.ireturn) := by decide +kernel
theorem i160_81 : xIns xg 160 81 = some (.iload 4) := by decide +kernel
theorem i160_83 : xIns xg 160 83 = some (.aload_n 0) := by decide +kernel
theorem i160_84 : xIns xg 160 84 = some (.getfield 169) := by decide +kernel
theorem i160_87 : xIns xg 160 87 = some (.iload_n 1) := by decide +kernel
theorem i160_88 : xIns xg 160 88 = some (.iaload) := by decide +kernel
theorem i160_89 : xIns xg 160 89 = some (.iload 5) := by decide +kernel
theorem i160_91 : xIns xg 160 91 = some (.isub) := by decide +kernel
theorem i160_92 : xIns xg 160 92 = some (.if_icmp .le 6) := by decide +kernel
theorem i160_98 : xIns xg 160 98 = some (.bipush 24) := by decide +kernel
theorem i160_100 : xIns xg 160 100 = some (.iload_n 2) := by decide +kernel
theorem i160_101 : xIns xg 160 101 = some (.imul) := by decide +kernel
theorem i160_102 : xIns xg 160 102 = some (.istore 6) := by decide +kernel
theorem i160_104 : xIns xg 160 104 = some (.aload_n 0) := by decide +kernel
theorem i160_105 : xIns xg 160 105 = some (.getfield 13) := by decide +kernel
theorem i160_108 : xIns xg 160 108 = some (.iload_n 2) := by decide +kernel
theorem i160_109 : xIns xg 160 109 = some (.iconst 1) := by decide +kernel
theorem i160_110 : xIns xg 160 110 = some (.iastore) := by decide +kernel
theorem i160_111 : xIns xg 160 111 = some (.aload_n 0) := by decide +kernel
theorem i160_112 : xIns xg 160 112 = some (.getfield 17) := by decide +kernel
theorem i160_115 : xIns xg 160 115 = some (.iload 6) := by decide +kernel
theorem i160_117 : xIns xg 160 117 = some (.iconst 2) := by decide +kernel
theorem i160_118 : xIns xg 160 118 = some (.iastore) := by decide +kernel
theorem i160_119 : xIns xg 160 119 = some (.aload_n 0) := by decide +kernel
theorem i160_120 : xIns xg 160 120 = some (.getfield 20) := by decide +kernel
theorem i160_123 : xIns xg 160 123 = some (.iload 6) := by decide +kernel
theorem i160_125 : xIns xg 160 125 = some (.iconst 0) := by decide +kernel
theorem i160_126 : xIns xg 160 126 = some (.iastore) := by decide +kernel
theorem i160_127 : xIns xg 160 127 = some (.aload_n 0) := by decide +kernel
theorem i160_128 : xIns xg 160 128 = some (.getfield 23) := by decide +kernel
theorem i160_131 : xIns xg 160 131 = some (.iload 6) := by decide +kernel
theorem i160_133 : xIns xg 160 133 = some (.iconst 1) := by decide +kernel
theorem i160_134 : xIns xg 160 134 = some (.iastore) := by decide +kernel
theorem i160_135 : xIns xg 160 135 = some (.aload_n 0) := by decide +kernel
theorem i160_136 : xIns xg 160 136 = some (.getfield 33) := by decide +kernel
theorem i160_139 : xIns xg 160 139 = some (.iload 6) := by decide +kernel
theorem i160_141 : xIns xg 160 141 = some (.iload 5) := by decide +kernel
theorem i160_143 : xIns xg 160 143 = some (.iastore) := by decide +kernel
theorem i160_144 : xIns xg 160 144 = some (.iconst 0) := by decide +kernel
theorem i160_145 : xIns xg 160 145 = some (.istore 7) := by decide +kernel
theorem i160_73 : xIns xg 160 73 = some (.bipush (-11)) := by decide +kernel
theorem i160_75 : xIns xg 160 75 = some (.ireturn) := by decide +kernel
theorem i160_0 : xIns xg 160 0 = some (.iload_n 1) := by decide +kernel
theorem i160_1 : xIns xg 160 1 = some (.invokestatic 403) := by decide +kernel
theorem i160_4 : xIns xg 160 4 = some (.ifCond .eq 35) := by decide +kernel
theorem i160_39 : xIns xg 160 39 = some (.bipush (-2)) := by decide +kernel
theorem i160_41 : xIns xg 160 41 = some (.ireturn) := by decide +kernel
theorem i160_7 : xIns xg 160 7 = some (.iload_n 2) := by decide +kernel
theorem i160_8 : xIns xg 160 8 = some (.invokestatic 266) := by decide +kernel
theorem i160_11 : xIns xg 160 11 = some (.ifCond .eq 28) := by decide +kernel
theorem i160_14 : xIns xg 160 14 = some (.iload_n 3) := by decide +kernel
theorem i160_15 : xIns xg 160 15 = some (.i2l) := by decide +kernel
theorem i160_16 : xIns xg 160 16 = some (.lconst 0) := by decide +kernel
theorem i160_17 : xIns xg 160 17 = some (.ldc2_w 293) := by decide +kernel
theorem c160_293 : xCon xg 160 293 = some (vl (2)) := by decide +kernel
theorem i160_20 : xIns xg 160 20 = some (.invokestatic 177) := by decide +kernel
theorem i160_23 : xIns xg 160 23 = some (.ifCond .eq 16) := by decide +kernel
theorem i160_26 : xIns xg 160 26 = some (.iload 5) := by decide +kernel
theorem i160_28 : xIns xg 160 28 = some (.i2l) := by decide +kernel
theorem i160_29 : xIns xg 160 29 = some (.lconst 1) := by decide +kernel
theorem i160_30 : xIns xg 160 30 = some (.ldc2_w 429) := by decide +kernel
theorem c160_429 : xCon xg 160 429 = some (vl (8)) := by decide +kernel
theorem i160_33 : xIns xg 160 33 = some (.invokestatic 177) := by decide +kernel
theorem i160_36 : xIns xg 160 36 = some (.ifCond .ne 6) := by decide +kernel
theorem i160_42 : xIns xg 160 42 = some (.aload_n 0) := by decide +kernel
theorem i160_43 : xIns xg 160 43 = some (.getfield 163) := by decide +kernel
theorem i160_46 : xIns xg 160 46 = some (.iload_n 1) := by decide +kernel
theorem i160_47 : xIns xg 160 47 = some (.baload) := by decide +kernel
theorem i160_48 : xIns xg 160 48 = some (.ifCond .eq 16) := by decide +kernel
theorem i160_51 : xIns xg 160 51 = some (.aload_n 0) := by decide +kernel
theorem i160_52 : xIns xg 160 52 = some (.getfield 166) := by decide +kernel
theorem i160_55 : xIns xg 160 55 = some (.iload_n 1) := by decide +kernel
theorem i160_56 : xIns xg 160 56 = some (.iaload) := by decide +kernel
theorem i160_57 : xIns xg 160 57 = some (.iload_n 3) := by decide +kernel
theorem i160_58 : xIns xg 160 58 = some (.if_icmp .eq 6) := by decide +kernel
theorem i160_61 : xIns xg 160 61 = some (.bipush (-13)) := by decide +kernel
theorem i160_63 : xIns xg 160 63 = some (.ireturn) := by decide +kernel
def d_x8_lay_147 (N : Nat)  (k147 : St → Int → Int → Int → Int → Int → Option Rs) (s : St) (x1 : Int) (x4 : Int) (x5 : Int) (x6 : Int) (x7 : Int) : Option Rs :=
  (if (w32 x7) < (w32 x5) then if 0 ≤ (w32 (((40 * x1) + x4) + x7)) ∧ (w32 (((40 * x1) + x4) + x7)) < ((160 : Nat) : Int) then if 0 ≤ (w32 ((8 * x6) + x7)) ∧ (w32 ((8 * x6) + x7)) < ((1536 : Nat) : Int) then bd (up s 85 (Int.toNat (w32 ((8 * x6) + x7))) (s 129 (Int.toNat (w32 (((40 * x1) + x4) + x7))))) fun s3 => bd (x7 + 1) fun v4 => k147 s3 x1 x4 x5 x6 v4 else none else none else bV (d_x8_untells N  s ) fun s1 => some (s1, x5))
def d_x8_lay_147L (N : Nat)  : Nat → St → Int → Int → Int → Int → Int → Option Rs
  | 0 => fun _ _ _ _ _ _ => none
  | n + 1 => d_x8_lay_147 N  (d_x8_lay_147L N  n)
set_option maxHeartbeats 4000000 in
set_option maxRecDepth 100000 in
theorem c_x8_lay_147 {sc : xS} {d : Nat} {R : Rs} (N : Nat)  (hd : 2 ≤ d)   (k147 : St → Int → Int → Int → Int → Int → Option Rs) (hk147 : ∀ (s : St) (x1 : Int) (x4 : Int) (x5 : Int) (x6 : Int) (x7 : Int), k147 s x1 x4 x5 x6 x7 = some R → vT sc d 160 147 [(0, .ref 77), (1, vi x1), (4, vi x4), (5, vi x5), (6, vi x6), (7, vi x7)] [] s (fun r => r = qI R)) (s : St) (x1 : Int) (x4 : Int) (x5 : Int) (x6 : Int) (x7 : Int) : d_x8_lay_147 N  k147 s x1 x4 x5 x6 x7 = some R → vT sc d 160 147 [(0, .ref 77), (1, vi x1), (4, vi x4), (5, vi x5), (6, vi x6), (7, vi x7)] [] s (fun r => r = qI R) := by
  obtain ⟨d, rfl⟩ : ∃ d', d = d' + 1 := ⟨d - 1, by omega⟩
  unfold d_x8_lay_147
  refine vLi 149 i160_147 rfl rfl ?_
  refine vLi 151 i160_149 rfl rfl ?_
  refine vCge 188 154 rfl rfl i160_151 rfl rfl ?_ ?_
  · refine vLan 189 i160_188 rfl rfl ?_
    refine vCallV 192 [.ref 77] [] [(0, .ref 77)] i160_189 rfl (xlk0 l160_269) (Or.inl rfl) m195 rfl rfl (Nat.le_of_ble_eq_true rfl) (Nat.le_of_ble_eq_true rfl) (Nat.le_of_ble_eq_true rfl) (xh0 sh_77 (by decide)) rfl rfl (fun R1 => c_x8_untells N   (by omega) s ) (fun s1 => ?_)
    refine vLi 194 i160_192 rfl rfl ?_
    exact vRi i160_194 m160 rfl
  · refine vLan 155 i160_154 rfl rfl ?_
    refine vGetC 158 i160_155 f160_36 sh_77 rfl rfl ?_
    refine vKb 160 i160_158 (by decide) rfl ?_
    refine vLi 162 i160_160 rfl rfl ?_
    refine vImul 163 i160_162 rfl ?_
    refine vLi 165 i160_163 rfl rfl ?_
    refine vIadd 166 i160_165 rfl ?_
    refine vLan 167 i160_166 rfl rfl ?_
    refine vGetC 170 i160_167 f160_172 sh_77 rfl rfl ?_
    refine vKb 172 i160_170 (by decide) rfl ?_
    refine vLin 173 i160_172 rfl rfl ?_
    refine vImul 174 i160_173 rfl ?_
    refine vLi 176 i160_174 rfl rfl ?_
    refine vIadd 177 i160_176 rfl ?_
    refine vLi 179 i160_177 rfl rfl ?_
    refine vIadd 180 i160_179 rfl ?_
    refine vLal 181 rfl i160_180 sh_129 rfl ?_
    refine vLas 182 rfl i160_181 sh_85 rfl (fun s3 => ?_)
    refine vInc 185 (fun v4 => [(7, vi v4), (0, .ref 77), (1, vi x1), (4, vi x4), (5, vi x5), (6, vi x6)]) i160_182 m160 (by decide) rfl (fun _ => rfl) rfl (fun v4 => ?_)
    refine vGo 147 i160_185 rfl ?_
    exact fun hD => tLc [(0, .ref 77), (1, vi x1), (4, vi x4), (5, vi x5), (6, vi x6), (7, vi v4)] (xNdk [0, 1, 4, 5, 6, 7] rfl (by decide)) (xNdk [7, 0, 1, 4, 5, 6] rfl (by decide)) ⟨rfl, rfl, rfl, rfl, rfl, rfl, trivial⟩ (hk147 s3 x1 x4 x5 x6 v4 hD)
theorem c_x8_lay_147L {sc : xS} {d : Nat} {R : Rs} (N : Nat)  (hd : 2 ≤ d)   : ∀ (n : Nat) (s : St) (x1 : Int) (x4 : Int) (x5 : Int) (x6 : Int) (x7 : Int), d_x8_lay_147L N  n s x1 x4 x5 x6 x7 = some R → vT sc d 160 147 [(0, .ref 77), (1, vi x1), (4, vi x4), (5, vi x5), (6, vi x6), (7, vi x7)] [] s (fun r => r = qI R) := by
  intro n
  induction n with
  | zero => intro s x1 x4 x5 x6 x7 hD; cases hD
  | succ n ih => intro s x1 x4 x5 x6 x7 hD; exact c_x8_lay_147 N  hd  _ ih s x1 x4 x5 x6 x7 hD
def d_x8_lay_64 (N : Nat)  (s : St) (x1 : Int) (x2 : Int) (x4 : Int) (x5 : Int) : Option Rs :=
  if 0 ≤ (w32 x1) ∧ (w32 x1) < ((4 : Nat) : Int) then (if (w32 (s 126 (Int.toNat (w32 x1)))) = 0 then some (s, (-11)) else (if (w32 x4) < 0 then some (s, (-12)) else if 0 ≤ (w32 x1) ∧ (w32 x1) < ((4 : Nat) : Int) then (if (w32 ((s 128 (Int.toNat (w32 x1))) - x5)) < (w32 x4) then some (s, (-12)) else bd (24 * x2) fun v5 => if 0 ≤ (w32 x2) ∧ (w32 x2) < ((8 : Nat) : Int) then bd (up s 78 (Int.toNat (w32 x2)) 1) fun s6 => if 0 ≤ (w32 v5) ∧ (w32 v5) < ((192 : Nat) : Int) then bd (up s6 79 (Int.toNat (w32 v5)) 2) fun s7 => if 0 ≤ (w32 v5) ∧ (w32 v5) < ((192 : Nat) : Int) then bd (up s7 80 (Int.toNat (w32 v5)) 0) fun s8 => if 0 ≤ (w32 v5) ∧ (w32 v5) < ((192 : Nat) : Int) then bd (up s8 81 (Int.toNat (w32 v5)) 1) fun s9 => if 0 ≤ (w32 v5) ∧ (w32 v5) < ((192 : Nat) : Int) then bd (up s9 84 (Int.toNat (w32 v5)) x5) fun s10 => d_x8_lay_147L N  N s10 x1 x4 x5 v5 0 else none else none else none else none else none) else none)) else none
set_option maxHeartbeats 4000000 in
set_option maxRecDepth 100000 in
theorem c_x8_lay_64 {sc : xS} {d : Nat} {R : Rs} (N : Nat)  (hd : 2 ≤ d)   (s : St) (x1 : Int) (x2 : Int) (x4 : Int) (x5 : Int) : d_x8_lay_64 N  s x1 x2 x4 x5 = some R → vT sc d 160 64 [(0, .ref 77), (1, vi x1), (2, vi x2), (4, vi x4), (5, vi x5)] [] s (fun r => r = qI R) := by
  obtain ⟨d, rfl⟩ : ∃ d', d = d' + 1 := ⟨d - 1, by omega⟩
  unfold d_x8_lay_64
  refine vLan 65 i160_64 rfl rfl ?_
  refine vGetC 68 i160_65 f160_163 sh_77 rfl rfl ?_
  refine vLin 69 i160_68 rfl rfl ?_
  refine vZal 70 rfl i160_69 sh_126 rfl ?_
  refine vZne 76 73 rfl i160_70 rfl rfl ?_ ?_
  · refine vLi 78 i160_76 rfl rfl ?_
    refine vZlt 95 81 rfl i160_78 rfl rfl ?_ ?_
    · refine vKb 97 i160_95 (by decide) rfl ?_
      exact vRi i160_97 m160 rfl
    · refine vLi 83 i160_81 rfl rfl ?_
      refine vLan 84 i160_83 rfl rfl ?_
      refine vGetC 87 i160_84 f160_169 sh_77 rfl rfl ?_
      refine vLin 88 i160_87 rfl rfl ?_
      refine vIal 89 rfl i160_88 sh_128 rfl ?_
      refine vLi 91 i160_89 rfl rfl ?_
      refine vIsub 92 i160_91 rfl ?_
      refine vCle 98 95 rfl rfl i160_92 rfl rfl ?_ ?_
      · refine vKb 100 i160_98 (by decide) rfl ?_
        refine vLin 101 i160_100 rfl rfl ?_
        refine vImul 102 i160_101 rfl ?_
        refine vSi 104 (fun v5 => [(6, vi v5), (0, .ref 77), (1, vi x1), (2, vi x2), (4, vi x4), (5, vi x5)]) i160_102 m160 (by decide) (fun v5 => (rfl : xst1 [(0, .ref 77), (1, vi x1), (2, vi x2), (4, vi x4), (5, vi x5)] 6 (vi v5) = [(6, vi v5), (0, .ref 77), (1, vi x1), (2, vi x2), (4, vi x4), (5, vi x5)])) rfl (fun v5 => ?_)
        refine vLan 105 i160_104 rfl rfl ?_
        refine vGetC 108 i160_105 f160_13 sh_77 rfl rfl ?_
        refine vLin 109 i160_108 rfl rfl ?_
        refine vK 110 i160_109 rfl ?_
        refine vIas 111 rfl i160_110 sh_78 rfl (fun s6 => ?_)
        refine vLan 112 i160_111 rfl rfl ?_
        refine vGetC 115 i160_112 f160_17 sh_77 rfl rfl ?_
        refine vLi 117 i160_115 rfl rfl ?_
        refine vK 118 i160_117 rfl ?_
        refine vIas 119 rfl i160_118 sh_79 rfl (fun s7 => ?_)
        refine vLan 120 i160_119 rfl rfl ?_
        refine vGetC 123 i160_120 f160_20 sh_77 rfl rfl ?_
        refine vLi 125 i160_123 rfl rfl ?_
        refine vK 126 i160_125 rfl ?_
        refine vIas 127 rfl i160_126 sh_80 rfl (fun s8 => ?_)
        refine vLan 128 i160_127 rfl rfl ?_
        refine vGetC 131 i160_128 f160_23 sh_77 rfl rfl ?_
        refine vLi 133 i160_131 rfl rfl ?_
        refine vK 134 i160_133 rfl ?_
        refine vIas 135 rfl i160_134 sh_81 rfl (fun s9 => ?_)
        refine vLan 136 i160_135 rfl rfl ?_
        refine vGetC 139 i160_136 f160_33 sh_77 rfl rfl ?_
        refine vLi 141 i160_139 rfl rfl ?_
        refine vLi 143 i160_141 rfl rfl ?_
        refine vIas 144 rfl i160_143 sh_84 rfl (fun s10 => ?_)
        refine vK 145 i160_144 rfl ?_
        refine vSi0 147 [(7, vi 0), (6, vi v5), (0, .ref 77), (1, vi x1), (2, vi x2), (4, vi x4), (5, vi x5)] i160_145 m160 (by decide) rfl rfl ?_
        exact fun hD => tLc [(0, .ref 77), (1, vi x1), (4, vi x4), (5, vi x5), (6, vi v5), (7, vi 0)] (xNdk [0, 1, 4, 5, 6, 7] rfl (by decide)) (xNdk [7, 6, 0, 1, 2, 4, 5] rfl (by decide)) ⟨rfl, rfl, rfl, rfl, rfl, rfl, trivial⟩ (c_x8_lay_147L N  hd  N s10 x1 x4 x5 v5 0 hD)
      · refine vKb 97 i160_95 (by decide) rfl ?_
        exact vRi i160_97 m160 rfl
  · refine vKb 75 i160_73 (by decide) rfl ?_
    exact vRi i160_75 m160 rfl
def d_x8_lay (N : Nat)  (s : St) (a0 : Int) (a1 : Int) (a2 : Int) (a3 : Int) (a4 : Int) : Option Rs :=
  bI (d_x8_isSheet N  s a0) fun s11 v12 => (if (w32 v12) = 0 then some (s11, (-2)) else bI (d_x8_isStream N  s11 a1) fun s13 v14 => (if (w32 v14) = 0 then some (s13, (-2)) else bI (d_x8_in N  s13 (w32 a2) 0 2) fun s15 v16 => (if (w32 v16) = 0 then some (s15, (-2)) else bI (d_x8_in N  s15 (w32 a4) 1 8) fun s17 v18 => (if (w32 v18) = 0 then some (s17, (-2)) else if 0 ≤ (w32 a0) ∧ (w32 a0) < ((4 : Nat) : Int) then (if (w32 (s17 126 (Int.toNat (w32 a0)))) = 0 then d_x8_lay_64 N  s17 a0 a1 a3 a4 else if 0 ≤ (w32 a0) ∧ (w32 a0) < ((4 : Nat) : Int) then (if (w32 (s17 127 (Int.toNat (w32 a0)))) = (w32 a2) then d_x8_lay_64 N  s17 a0 a1 a3 a4 else some (s17, (-13))) else none) else none))))
set_option maxHeartbeats 4000000 in
set_option maxRecDepth 100000 in
theorem c_x8_lay {sc : xS} {d : Nat} {R : Rs} (N : Nat)  (hd : 2 ≤ d)   (s : St) (a0 : Int) (a1 : Int) (a2 : Int) (a3 : Int) (a4 : Int) : d_x8_lay N  s a0 a1 a2 a3 a4 = some R → vT sc d 160 0 [(0, .ref 77), (1, vi a0), (2, vi a1), (3, vi a2), (4, vi a3), (5, vi a4)] [] s (fun r => r = qI R) := by
  obtain ⟨d, rfl⟩ : ∃ d', d = d' + 1 := ⟨d - 1, by omega⟩
  unfold d_x8_lay
  refine vLin 1 i160_0 rfl rfl ?_
  refine vCallI 4 [vi a0] [] [(0, vi a0)] i160_1 rfl (xlk1 l160_403) (Or.inr (Or.inl rfl)) m149 rfl rfl (Nat.le_of_ble_eq_true rfl) (Nat.le_of_ble_eq_true rfl) (Nat.le_of_ble_eq_true rfl) rfl rfl rfl (fun R1 => c_x8_isSheet N   (by omega) s a0) (fun s11 v12 => ?_)
  refine vZeq 39 7 rfl i160_4 rfl rfl ?_ ?_
  · refine vKb 41 i160_39 (by decide) rfl ?_
    exact vRi i160_41 m160 rfl
  · refine vLin 8 i160_7 rfl rfl ?_
    refine vCallI 11 [vi a1] [] [(0, vi a1)] i160_8 rfl (xlk1 l160_266) (Or.inr (Or.inl rfl)) m153 rfl rfl (Nat.le_of_ble_eq_true rfl) (Nat.le_of_ble_eq_true rfl) (Nat.le_of_ble_eq_true rfl) rfl rfl rfl (fun R1 => c_x8_isStream N   (by omega) s11 a1) (fun s13 v14 => ?_)
    refine vZeq 39 14 rfl i160_11 rfl rfl ?_ ?_
    · refine vKb 41 i160_39 (by decide) rfl ?_
      exact vRi i160_41 m160 rfl
    · refine vLin 15 i160_14 rfl rfl ?_
      refine vI2l 16 i160_15 rfl ?_
      refine vKl 17 0 i160_16 (by decide) rfl ?_
      refine vKd 20 i160_17 c160_293 rfl ?_
      refine vCallI 23 [vl (w32 a2), vl 0, vl 2] [] [(0, vl (w32 a2)), (2, vl 0), (4, vl 2)] i160_20 rfl (xlk1 l160_177) (Or.inr (Or.inl rfl)) m142 rfl rfl (Nat.le_of_ble_eq_true rfl) (Nat.le_of_ble_eq_true rfl) (Nat.le_of_ble_eq_true rfl) rfl rfl rfl (fun R1 => c_x8_in N   (by omega) s13 (w32 a2) 0 2) (fun s15 v16 => ?_)
      refine vZeq 39 26 rfl i160_23 rfl rfl ?_ ?_
      · refine vKb 41 i160_39 (by decide) rfl ?_
        exact vRi i160_41 m160 rfl
      · refine vLi 28 i160_26 rfl rfl ?_
        refine vI2l 29 i160_28 rfl ?_
        refine vKl 30 1 i160_29 (by decide) rfl ?_
        refine vKd 33 i160_30 c160_429 rfl ?_
        refine vCallI 36 [vl (w32 a4), vl 1, vl 8] [] [(0, vl (w32 a4)), (2, vl 1), (4, vl 8)] i160_33 rfl (xlk1 l160_177) (Or.inr (Or.inl rfl)) m142 rfl rfl (Nat.le_of_ble_eq_true rfl) (Nat.le_of_ble_eq_true rfl) (Nat.le_of_ble_eq_true rfl) rfl rfl rfl (fun R1 => c_x8_in N   (by omega) s15 (w32 a4) 1 8) (fun s17 v18 => ?_)
        refine vZne 42 39 rfl i160_36 rfl rfl ?_ ?_
        · refine vLan 43 i160_42 rfl rfl ?_
          refine vGetC 46 i160_43 f160_163 sh_77 rfl rfl ?_
          refine vLin 47 i160_46 rfl rfl ?_
          refine vZal 48 rfl i160_47 sh_126 rfl ?_
          refine vZeq 64 51 rfl i160_48 rfl rfl ?_ ?_
          · exact fun hD => tLc [(0, .ref 77), (1, vi a0), (2, vi a1), (4, vi a3), (5, vi a4)] (xNdk [0, 1, 2, 4, 5] rfl (by decide)) (xNdk [0, 1, 2, 3, 4, 5] rfl (by decide)) ⟨rfl, rfl, rfl, rfl, rfl, trivial⟩ (c_x8_lay_64 N  hd  s17 a0 a1 a3 a4 hD)
          · refine vLan 52 i160_51 rfl rfl ?_
            refine vGetC 55 i160_52 f160_166 sh_77 rfl rfl ?_
            refine vLin 56 i160_55 rfl rfl ?_
            refine vIal 57 rfl i160_56 sh_127 rfl ?_
            refine vLin 58 i160_57 rfl rfl ?_
            refine vCeq 64 61 rfl rfl i160_58 rfl rfl ?_ ?_
            · exact fun hD => tLc [(0, .ref 77), (1, vi a0), (2, vi a1), (4, vi a3), (5, vi a4)] (xNdk [0, 1, 2, 4, 5] rfl (by decide)) (xNdk [0, 1, 2, 3, 4, 5] rfl (by decide)) ⟨rfl, rfl, rfl, rfl, rfl, trivial⟩ (c_x8_lay_64 N  hd  s17 a0 a1 a3 a4 hD)
            · refine vKb 63 i160_61 (by decide) rfl ?_
              exact vRi i160_63 m160 rfl
        · refine vKb 41 i160_39 (by decide) rfl ?_
          exact vRi i160_41 m160 rfl
