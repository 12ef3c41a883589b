theorem i118_0 : xIns xg 118 0 = some (.aload_n 0) := by decide +kernel
theorem i118_1 : xIns xg 118 1 = some (.iload_n 1) := by decide +kernel
theorem i118_2 : xIns xg 118 2 = some (.iload_n 2) := by decide +kernel
theorem i118_3 : xIns xg 118 3 = some (.invokevirtual 162) := by decide +kernel
theorem l118_162 : xMth xg 118 162 = some (0, 108, 3, 6) := by decide +kernel
theorem m108 : (xMet xg 108).2.2 = (3, (some .int)) := by decide +kernel
theorem i108_0 : xIns xg 108 0 = some (.aload_n 0) := by decide +kernel
theorem i108_1 : xIns xg 108 1 = some (.iload_n 1) := by decide +kernel
theorem i108_2 : xIns xg 108 2 = some (.iload_n 2) := by decide +kernel
theorem i108_3 : xIns xg 108 3 = some (.bipush 63) := by decide +kernel
theorem i108_5 : xIns xg 108 5 = some (.invokevirtual 196) := by decide +kernel
theorem l108_196 : xMth xg 108 196 = some (0, 109, 4, 6) := by decide +kernel
theorem m109 : (xMet xg 109).2.2 = (4, (some .int)) := by decide +kernel
theorem i109_0 : xIns xg 109 0 = some (.iload_n 1) := by decide +kernel
theorem i109_1 : xIns xg 109 1 = some (.invokestatic 86) := by decide +kernel
theorem l109_86 : xMth xg 109 86 = some (1, 98, 1, 0) := by decide +kernel
theorem i109_4 : xIns xg 109 4 = some (.ifCond .eq 12) := by decide +kernel
theorem i109_16 : xIns xg 109 16 = some (.bipush (-2)) := by decide +kernel
theorem i109_18 : xIns xg 109 18 = some (.ireturn) := by decide +kernel
theorem i108_8 : xIns xg 108 8 = some (.ireturn) := by decide +kernel
theorem i118_6 : xIns xg 118 6 = some (.istore_n 3) := by decide +kernel
theorem m118 : (xMet xg 118).2.2 = (4, (some .int)) := by decide +kernel
theorem i118_7 : xIns xg 118 7 = some (.iload_n 3) := by decide +kernel
theorem i118_8 : xIns xg 118 8 = some (.ifCond .eq 5) := by decide +kernel
theorem i118_11 : xIns xg 118 11 = some (.iload_n 3) := by decide +kernel
theorem i118_12 : xIns xg 118 12 = some (.ireturn) := by decide +kernel
theorem i109_7 : xIns xg 109 7 = some (.iload_n 2) := by decide +kernel
theorem i109_8 : xIns xg 109 8 = some (.ifCond .lt 8) := by decide +kernel
theorem i109_11 : xIns xg 109 11 = some (.iload_n 2) := by decide +kernel
theorem i109_12 : xIns xg 109 12 = some (.iload_n 3) := by decide +kernel
theorem i109_13 : xIns xg 109 13 = some (.if_icmp .le 6) := by decide +kernel
theorem i109_19 : xIns xg 109 19 = some (.aload_n 0) := by decide +kernel
theorem i109_20 : xIns xg 109 20 = some (.iload_n 1) := by decide +kernel
theorem i109_21 : xIns xg 109 21 = some (.invokevirtual 108) := by decide +kernel
theorem l109_108 : xMth xg 109 108 = some (0, 95, 2, 6) := by decide +kernel
theorem i109_24 : xIns xg 109 24 = some (.ifCond .eq 8) := by decide +kernel
theorem i109_27 : xIns xg 109 27 = some (.bipush (-3)) := by decide +kernel
theorem i109_29 : xIns xg 109 29 = some (.goto 4) := by decide +kernel
theorem i109_33 : xIns xg 109 33 = some (.ireturn) := by decide +kernel
theorem i94_0 : xIns xg 94 0 = some (.aload_n 0) := by decide +kernel
theorem i94_1 : xIns xg 94 1 = some (.iload_n 1) := by decide +kernel
theorem i94_2 : xIns xg 94 2 = some (.iload_n 2) := by decide +kernel
theorem i94_3 : xIns xg 94 3 = some (.invokevirtual 162) := by decide +kernel
theorem l94_162 : xMth xg 94 162 = some (0, 108, 3, 6) := by decide +kernel
theorem i94_6 : xIns xg 94 6 = some (.istore_n 3) := by decide +kernel
theorem m94 : (xMet xg 94).2.2 = (4, (some .int)) := by decide +kernel
theorem i94_7 : xIns xg 94 7 = some (.iload_n 3) := by decide +kernel
theorem i94_8 : xIns xg 94 8 = some (.ifCond .eq 5) := by decide +kernel
theorem i94_11 : xIns xg 94 11 = some (.iload_n 3) := by decide +kernel
theorem i94_12 : xIns xg 94 12 = some (.ireturn) := by decide +kernel
theorem i91_0 : xIns xg 91 0 = some (.aload_n 0) := by decide +kernel
theorem i91_1 : xIns xg 91 1 = some (.iload_n 1) := by decide +kernel
theorem i91_2 : xIns xg 91 2 = some (.iload_n 2) := by decide +kernel
theorem i91_3 : xIns xg 91 3 = some (.invokevirtual 162) := by decide +kernel
theorem l91_162 : xMth xg 91 162 = some (0, 108, 3, 6) := by decide +kernel
theorem i91_6 : xIns xg 91 6 = some (.ifCond .eq 7) := by decide +kernel
theorem i91_9 : xIns xg 91 9 = some (.ldc2_w 133) := by decide +kernel
theorem c91_133 : xCon xg 91 133 = some (.long (-4611686018427387904)) := by decide +kernel
theorem i91_12 : xIns xg 91 12 = some (.lreturn) := by decide +kernel
theorem m91 : (xMet xg 91).2.2 = (3, (some .long)) := by decide +kernel
theorem i103_0 : xIns xg 103 0 = some (.aload_n 0) := by decide +kernel
theorem i103_1 : xIns xg 103 1 = some (.iload_n 1) := by decide +kernel
theorem i103_2 : xIns xg 103 2 = some (.iload_n 2) := by decide +kernel
theorem i103_3 : xIns xg 103 3 = some (.invokevirtual 162) := by decide +kernel
theorem l103_162 : xMth xg 103 162 = some (0, 108, 3, 6) := by decide +kernel
theorem i103_6 : xIns xg 103 6 = some (.istore_n 3) := by decide +kernel
theorem m103 : (xMet xg 103).2.2 = (4, (some .int)) := by decide +kernel
theorem i103_7 : xIns xg 103 7 = some (.iload_n 3) := by decide +kernel
theorem i103_8 : xIns xg 103 8 = some (.ifCond .eq 5) := by decide +kernel
theorem i103_11 : xIns xg 103 11 = some (.iload_n 3) := by decide +kernel
theorem i103_12 : xIns xg 103 12 = some (.ireturn) := by decide +kernel
theorem i102_0 : xIns xg 102 0 = some (.iload_n 1) := by decide +kernel
theorem i102_1 : xIns xg 102 1 = some (.ifCond .lt 9) := by decide +kernel
theorem i102_10 : xIns xg 102 10 = some (.bipush (-2)) := by decide +kernel
theorem i102_12 : xIns xg 102 12 = some (.ireturn) := by decide +kernel
theorem m102 : (xMet xg 102).2.2 = (3, (some .int)) := by decide +kernel
theorem i102_4 : xIns xg 102 4 = some (.iload_n 1) := by decide +kernel
theorem i102_5 : xIns xg 102 5 = some (.bipush 99) := by decide +kernel
theorem i102_7 : xIns xg 102 7 = some (.if_icmp .le 6) := by decide +kernel
theorem i102_13 : xIns xg 102 13 = some (.aload_n 0) := by decide +kernel
theorem i102_14 : xIns xg 102 14 = some (.getfield 76) := by decide +kernel
theorem f102_76 : xFld xg 102 76 = some (6, 12) := by decide +kernel
theorem i102_17 : xIns xg 102 17 = some (.istore_n 2) := by decide +kernel
theorem i102_18 : xIns xg 102 18 = some (.aload_n 0) := by decide +kernel
theorem i102_19 : xIns xg 102 19 = some (.iload_n 1) := by decide +kernel
theorem i102_20 : xIns xg 102 20 = some (.putfield 76) := by decide +kernel
theorem p102_76 : xPut xg 102 76 = some (6, 12, .int) := by decide +kernel
theorem i102_23 : xIns xg 102 23 = some (.iload_n 2) := by decide +kernel
theorem i102_24 : xIns xg 102 24 = some (.ireturn) := by decide +kernel
theorem i89_0 : xIns xg 89 0 = some (.aload_n 0) := by decide +kernel
theorem i89_1 : xIns xg 89 1 = some (.getfield 35) := by decide +kernel
theorem f89_35 : xFld xg 89 35 = some (6, 3) := by decide +kernel
theorem i89_4 : xIns xg 89 4 = some (.invokevirtual 190) := by decide +kernel
theorem l89_190 : xMth xg 89 190 = some (0, 72, 1, 5) := by decide +kernel
theorem m72 : (xMet xg 72).2.2 = (3, (some .int)) := by decide +kernel
theorem i72_0 : xIns xg 72 0 = some (.iconst 0) := by decide +kernel
theorem i72_1 : xIns xg 72 1 = some (.istore_n 1) := by decide +kernel
theorem i72_2 : xIns xg 72 2 = some (.iconst 0) := by decide +kernel
theorem i72_3 : xIns xg 72 3 = some (.istore_n 2) := by decide +kernel
theorem i72_4 : xIns xg 72 4 = some (.iload_n 2) := by decide +kernel
theorem i72_5 : xIns xg 72 5 = some (.aload_n 0) := by decide +kernel
theorem i72_6 : xIns xg 72 6 = some (.getfield 9) := by decide +kernel
theorem f72_9 : xFld xg 72 9 = some (5, 11) := by decide +kernel
theorem i72_9 : xIns xg 72 9 = some (.if_icmp .ge 23) := by decide +kernel
theorem i72_32 : xIns xg 72 32 = some (.iload_n 1) := by decide +kernel
theorem i72_33 : xIns xg 72 33 = some (.ireturn) := by decide +kernel
theorem i89_7 : xIns xg 89 7 = some (.aload_n 0) := by decide +kernel
theorem i89_8 : xIns xg 89 8 = some (.getfield 35) := by decide +kernel
theorem i89_11 : xIns xg 89 11 = some (.invokevirtual 193) := by decide +kernel
theorem l89_193 : xMth xg 89 193 = some (0, 71, 1, 5) := by decide +kernel
theorem m71 : (xMet xg 71).2.2 = (3, (some .int)) := by decide +kernel
theorem i71_0 : xIns xg 71 0 = some (.iconst 0) := by decide +kernel
theorem i71_1 : xIns xg 71 1 = some (.istore_n 1) := by decide +kernel
theorem i71_2 : xIns xg 71 2 = some (.iconst 0) := by decide +kernel
theorem i71_3 : xIns xg 71 3 = some (.istore_n 2) := by decide +kernel
theorem i71_4 : xIns xg 71 4 = some (.iload_n 2) := by decide +kernel
theorem i71_5 : xIns xg 71 5 = some (.aload_n 0) := by decide +kernel
theorem i71_6 : xIns xg 71 6 = some (.getfield 9) := by decide +kernel
theorem f71_9 : xFld xg 71 9 = some (5, 11) := by decide +kernel
theorem i71_9 : xIns xg 71 9 = some (.if_icmp .ge 23) := by decide +kernel
theorem i71_32 : xIns xg 71 32 = some (.iload_n 1) := by decide +kernel
theorem i71_33 : xIns xg 71 33 = some (.ireturn) := by decide +kernel
theorem i89_14 : xIns xg 89 14 = some (.iadd) := by decide +kernel
theorem i89_15 : xIns xg 89 15 = some (.istore_n 1) := by decide +kernel
theorem m89 : (xMet xg 89).2.2 = (2, (some .int)) := by decide +kernel
theorem i89_16 : xIns xg 89 16 = some (.aload_n 0) := by decide +kernel
theorem i89_17 : xIns xg 89 17 = some (.getfield 35) := by decide +kernel
theorem i89_20 : xIns xg 89 20 = some (.invokevirtual 101) := by decide +kernel
theorem l89_101 : xMth xg 89 101 = some (0, 77, 1, 5) := by decide +kernel
theorem i89_23 : xIns xg 89 23 = some (.iload_n 1) := by decide +kernel
theorem i89_24 : xIns xg 89 24 = some (.ireturn) := by decide +kernel
theorem i112_0 : xIns xg 112 0 = some (.aload_n 0) := by decide +kernel
theorem i112_1 : xIns xg 112 1 = some (.iload_n 1) := by decide +kernel
theorem i112_2 : xIns xg 112 2 = some (.iload_n 2) := by decide +kernel
theorem i112_3 : xIns xg 112 3 = some (.bipush 64) := by decide +kernel
theorem i112_5 : xIns xg 112 5 = some (.invokevirtual 196) := by decide +kernel
theorem l112_196 : xMth xg 112 196 = some (0, 109, 4, 6) := by decide +kernel
theorem i112_8 : xIns xg 112 8 = some (.ifCond .eq 7) := by decide +kernel
theorem i112_11 : xIns xg 112 11 = some (.ldc2_w 133) := by decide +kernel
theorem c112_133 : xCon xg 112 133 = some (.long (-4611686018427387904)) := by decide +kernel
theorem i112_14 : xIns xg 112 14 = some (.lreturn) := by decide +kernel
theorem m112 : (xMet xg 112).2.2 = (4, (some .long)) := by decide +kernel
theorem i88_0 : xIns xg 88 0 = some (.aload_n 0) := by decide +kernel
theorem i88_1 : xIns xg 88 1 = some (.iload_n 1) := by decide +kernel
theorem i88_2 : xIns xg 88 2 = some (.iload 4) := by decide +kernel
theorem i88_4 : xIns xg 88 4 = some (.bipush 64) := by decide +kernel
theorem i88_6 : xIns xg 88 6 = some (.invokevirtual 196) := by decide +kernel
theorem l88_196 : xMth xg 88 196 = some (0, 109, 4, 6) := by decide +kernel
theorem i88_9 : xIns xg 88 9 = some (.istore 5) := by decide +kernel
theorem m88 : (xMet xg 88).2.2 = (6, (some .int)) := by decide +kernel
theorem i88_11 : xIns xg 88 11 = some (.iload 5) := by decide +kernel
theorem i88_13 : xIns xg 88 13 = some (.ifCond .eq 6) := by decide +kernel
theorem i88_16 : xIns xg 88 16 = some (.iload 5) := by decide +kernel
theorem i88_18 : xIns xg 88 18 = some (.ireturn) := by decide +kernel
theorem i83_0 : xIns xg 83 0 = some (.iload_n 1) := by decide +kernel
theorem i83_1 : xIns xg 83 1 = some (.invokestatic 86) := by decide +kernel
theorem l83_86 : xMth xg 83 86 = some (1, 98, 1, 0) := by decide +kernel
theorem i83_4 : xIns xg 83 4 = some (.ifCond .eq 20) := by decide +kernel
theorem i83_24 : xIns xg 83 24 = some (.bipush (-2)) := by decide +kernel
theorem i83_26 : xIns xg 83 26 = some (.ireturn) := by decide +kernel
theorem m83 : (xMet xg 83).2.2 = (4, (some .int)) := by decide +kernel
theorem i83_7 : xIns xg 83 7 = some (.iload_n 2) := by decide +kernel
theorem i83_8 : xIns xg 83 8 = some (.invokestatic 86) := by decide +kernel
theorem i83_11 : xIns xg 83 11 = some (.ifCond .eq 13) := by decide +kernel
theorem i83_14 : xIns xg 83 14 = some (.iload_n 3) := by decide +kernel
theorem i83_15 : xIns xg 83 15 = some (.ifCond .lt 9) := by decide +kernel
theorem i83_18 : xIns xg 83 18 = some (.iload_n 3) := by decide +kernel
theorem i83_19 : xIns xg 83 19 = some (.bipush 64) := by decide +kernel
theorem i83_21 : xIns xg 83 21 = some (.if_icmp .le 6) := by decide +kernel
theorem i83_27 : xIns xg 83 27 = some (.aload_n 0) := by decide +kernel
theorem i83_28 : xIns xg 83 28 = some (.iload_n 1) := by decide +kernel
theorem i83_29 : xIns xg 83 29 = some (.invokevirtual 108) := by decide +kernel
theorem l83_108 : xMth xg 83 108 = some (0, 95, 2, 6) := by decide +kernel
theorem i83_32 : xIns xg 83 32 = some (.ifCond .ne 11) := by decide +kernel
theorem i83_43 : xIns xg 83 43 = some (.bipush (-3)) := by decide +kernel
theorem i83_45 : xIns xg 83 45 = some (.ireturn) := by decide +kernel
theorem i110_0 : xIns xg 110 0 = some (.aload_n 0) := by decide +kernel
theorem i110_1 : xIns xg 110 1 = some (.iload_n 1) := by decide +kernel
theorem i110_2 : xIns xg 110 2 = some (.iconst 0) := by decide +kernel
theorem i110_3 : xIns xg 110 3 = some (.bipush 64) := by decide +kernel
theorem i110_5 : xIns xg 110 5 = some (.invokevirtual 196) := by decide +kernel
theorem l110_196 : xMth xg 110 196 = some (0, 109, 4, 6) := by decide +kernel
theorem i110_8 : xIns xg 110 8 = some (.istore_n 2) := by decide +kernel
theorem m110 : (xMet xg 110).2.2 = (3, (some .int)) := by decide +kernel
theorem i110_9 : xIns xg 110 9 = some (.iload_n 2) := by decide +kernel
theorem i110_10 : xIns xg 110 10 = some (.ifCond .eq 5) := by decide +kernel
theorem i110_13 : xIns xg 110 13 = some (.iload_n 2) := by decide +kernel
theorem i110_14 : xIns xg 110 14 = some (.ireturn) := by decide +kernel
def sp_there (a1 : Int32) (a2 : Int32) : Int32 := (if (a1) < 0 then (-2) else (if 8 ≤ (a1) then (-2) else (if (a2) < 0 then (-2) else (if (a2) ≤ 63 then (-3) else (-2)))))
set_option maxHeartbeats 4000000 in
set_option maxRecDepth 100000 in
theorem q_there {sc : xS} {d : Nat} (t : xH) (a1 : Int32) (a2 : Int32) : xT xg sc (d + 12) 118 0 [(0, .ref 0), (1, .int (a1)), (2, .int (a2))] [] (hC t) (fun r => r.1 = some (.int (sp_there a1 a2)) ∧ (∃ f, r.2.1 = xpre f t) ∧ r.2.2 = (0, 0)) := by
  refine wLan 1 i118_0 rfl rfl ?_
  refine wLin 2 i118_1 rfl rfl ?_
  refine wLin 3 i118_2 rfl rfl ?_
  refine jCall 6 [.ref 0, .int (a1), .int (a2)] [] [(0, .ref 0), (1, .int (a1)), (2, .int (a2))] i118_3 rfl (xlk0 l118_162) (Or.inl rfl) m108 rfl rfl (Nat.le_of_ble_eq_true rfl) (Nat.le_of_ble_eq_true rfl) (Nat.le_of_ble_eq_true rfl) rfl rfl rfl ?_
  refine wLan 1 i108_0 rfl rfl ?_
  refine wLin 2 i108_1 rfl rfl ?_
  refine wLin 3 i108_2 rfl rfl ?_
  refine wKb 5 63 i108_3 (by decide) rfl ?_
  refine jCall 8 [.ref 0, .int (a1), .int (a2), .int 63] [] [(0, .ref 0), (1, .int (a1)), (2, .int (a2)), (3, .int 63)] i108_5 rfl (xlk0 l108_196) (Or.inl rfl) m109 rfl rfl (Nat.le_of_ble_eq_true rfl) (Nat.le_of_ble_eq_true rfl) (Nat.le_of_ble_eq_true rfl) rfl rfl rfl ?_
  refine wLin 1 i109_0 rfl rfl ?_
  refine jCall 4 [.int (a1)] [] [(0, .int (a1))] i109_1 rfl (xlk1 l109_86) (Or.inr (Or.inl rfl)) m98 rfl rfl (Nat.le_of_ble_eq_true rfl) (Nat.le_of_ble_eq_true rfl) (Nat.le_of_ble_eq_true rfl) rfl rfl rfl ?_
  refine wLin 1 i98_0 rfl rfl ?_
  by_cases c1 : (a1) < 0
  ·
    refine wZT 14 i98_1 rfl (decide_eq_true c1) ?_
    refine wK 15 0 i98_14 (by decide) rfl ?_
    refine jRi i98_15 m98 (by decide) ?_
    refine wZT 16 i109_4 rfl (by decide) ?_
    refine wKb 18 (-2) i109_16 (by decide) rfl ?_
    refine jRi i109_18 m109 rfl ?_
    refine jRi i108_8 m108 rfl ?_
    refine wSin 7 [(3, .int (-2)), (0, .ref 0), (1, .int (a1)), (2, .int (a2))] i118_6 m118 (by decide) rfl rfl ?_
    refine wLin 8 i118_7 rfl rfl ?_
    refine wZF 13 11 i118_8 rfl (by decide) rfl ?_
    refine wLin 12 i118_11 rfl rfl ?_
    refine wRi i118_12 m118 rfl ?_
    refine ⟨congrArg (fun z => some (Value.int z)) ?_, xpre_of _ _ rfl, rfl⟩
    rw [sp_there, if_pos c1]
  ·
    refine wZF 14 4 i98_1 rfl (decide_eq_false c1) rfl ?_
    refine wLin 5 i98_4 rfl rfl ?_
    refine wKb 7 8 i98_5 (by decide) rfl ?_
    by_cases c2 : 8 ≤ (a1)
    ·
      refine wCT 14 i98_7 rfl (decide_eq_true c2) ?_
      refine wK 15 0 i98_14 (by decide) rfl ?_
      refine jRi i98_15 m98 (by decide) ?_
      refine wZT 16 i109_4 rfl (by decide) ?_
      refine wKb 18 (-2) i109_16 (by decide) rfl ?_
      refine jRi i109_18 m109 rfl ?_
      refine jRi i108_8 m108 rfl ?_
      refine wSin 7 [(3, .int (-2)), (0, .ref 0), (1, .int (a1)), (2, .int (a2))] i118_6 m118 (by decide) rfl rfl ?_
      refine wLin 8 i118_7 rfl rfl ?_
      refine wZF 13 11 i118_8 rfl (by decide) rfl ?_
      refine wLin 12 i118_11 rfl rfl ?_
      refine wRi i118_12 m118 rfl ?_
      refine ⟨congrArg (fun z => some (Value.int z)) ?_, xpre_of _ _ rfl, rfl⟩
      rw [sp_there, if_neg c1, if_pos c2]
    ·
      refine wCF 14 10 i98_7 rfl (decide_eq_false c2) rfl ?_
      refine wK 11 1 i98_10 (by decide) rfl ?_
      refine wGo 15 i98_11 rfl ?_
      refine jRi i98_15 m98 (by decide) ?_
      refine wZF 16 7 i109_4 rfl (by decide) rfl ?_
      refine wLin 8 i109_7 rfl rfl ?_
      by_cases c3 : (a2) < 0
      ·
        refine wZT 16 i109_8 rfl (decide_eq_true c3) ?_
        refine wKb 18 (-2) i109_16 (by decide) rfl ?_
        refine jRi i109_18 m109 rfl ?_
        refine jRi i108_8 m108 rfl ?_
        refine wSin 7 [(3, .int (-2)), (0, .ref 0), (1, .int (a1)), (2, .int (a2))] i118_6 m118 (by decide) rfl rfl ?_
        refine wLin 8 i118_7 rfl rfl ?_
        refine wZF 13 11 i118_8 rfl (by decide) rfl ?_
        refine wLin 12 i118_11 rfl rfl ?_
        refine wRi i118_12 m118 rfl ?_
        refine ⟨congrArg (fun z => some (Value.int z)) ?_, xpre_of _ _ rfl, rfl⟩
        rw [sp_there, if_neg c1, if_neg c2, if_pos c3]
      ·
        refine wZF 16 11 i109_8 rfl (decide_eq_false c3) rfl ?_
        refine wLin 12 i109_11 rfl rfl ?_
        refine wLin 13 i109_12 rfl rfl ?_
        by_cases c4 : (a2) ≤ 63
        ·
          refine wCT 19 i109_13 rfl (decide_eq_true c4) ?_
          refine wLan 20 i109_19 rfl rfl ?_
          refine wLin 21 i109_20 rfl rfl ?_
          refine jCall 24 [.ref 0, .int (a1)] [] [(0, .ref 0), (1, .int (a1))] i109_21 rfl (xlk0 l109_108) (Or.inl rfl) m95 rfl rfl (Nat.le_of_ble_eq_true rfl) (Nat.le_of_ble_eq_true rfl) (Nat.le_of_ble_eq_true rfl) rfl rfl rfl ?_
          refine wLan 1 i95_0 rfl rfl ?_
          refine wGet 4 (.ref 17) i95_1 f95_28 rfl rfl rfl ?_
          refine wGet 7 (.ref 18) i95_4 f95_104 rfl rfl rfl ?_
          refine wLin 8 i95_7 rfl rfl ?_
          refine wIal 9 i95_8 rfl (x_ib (Int32.not_lt.mp c1) (x_lt1 (z := 7) (Int32.not_le.mp c2) (by decide)) (by decide) (by decide)) rfl ?_
          refine tTop (v := 0) rfl ?_
          refine wZF 16 12 i95_9 rfl (by decide) rfl ?_
          refine wK 13 1 i95_12 (by decide) rfl ?_
          refine wGo 17 i95_13 rfl ?_
          refine jRi i95_17 m95 (by decide) ?_
          refine wZF 32 27 i109_24 rfl (by decide) rfl ?_
          refine wKb 29 (-3) i109_27 (by decide) rfl ?_
          refine wGo 33 i109_29 rfl ?_
          refine jRi i109_33 m109 rfl ?_
          refine jRi i108_8 m108 rfl ?_
          refine wSin 7 [(3, .int (-3)), (0, .ref 0), (1, .int (a1)), (2, .int (a2))] i118_6 m118 (by decide) rfl rfl ?_
          refine wLin 8 i118_7 rfl rfl ?_
          refine wZF 13 11 i118_8 rfl (by decide) rfl ?_
          refine wLin 12 i118_11 rfl rfl ?_
          refine wRi i118_12 m118 rfl ?_
          refine ⟨congrArg (fun z => some (Value.int z)) ?_, xpre_of _ _ rfl, rfl⟩
          rw [sp_there, if_neg c1, if_neg c2, if_neg c3, if_pos c4]
        ·
          refine wCF 19 16 i109_13 rfl (decide_eq_false c4) rfl ?_
          refine wKb 18 (-2) i109_16 (by decide) rfl ?_
          refine jRi i109_18 m109 rfl ?_
          refine jRi i108_8 m108 rfl ?_
          refine wSin 7 [(3, .int (-2)), (0, .ref 0), (1, .int (a1)), (2, .int (a2))] i118_6 m118 (by decide) rfl rfl ?_
          refine wLin 8 i118_7 rfl rfl ?_
          refine wZF 13 11 i118_8 rfl (by decide) rfl ?_
          refine wLin 12 i118_11 rfl rfl ?_
          refine wRi i118_12 m118 rfl ?_
          refine ⟨congrArg (fun z => some (Value.int z)) ?_, xpre_of _ _ rfl, rfl⟩
          rw [sp_there, if_neg c1, if_neg c2, if_neg c3, if_neg c4]
def sp_is (a1 : Int32) (a2 : Int32) : Int32 := (if (a1) < 0 then (-2) else (if 8 ≤ (a1) then (-2) else (if (a2) < 0 then (-2) else (if (a2) ≤ 63 then (-3) else (-2)))))
set_option maxHeartbeats 4000000 in
set_option maxRecDepth 100000 in
theorem q_is {sc : xS} {d : Nat} (t : xH) (a1 : Int32) (a2 : Int32) : xT xg sc (d + 12) 94 0 [(0, .ref 0), (1, .int (a1)), (2, .int (a2))] [] (hC t) (fun r => r.1 = some (.int (sp_is a1 a2)) ∧ (∃ f, r.2.1 = xpre f t) ∧ r.2.2 = (0, 0)) := by
  refine wLan 1 i94_0 rfl rfl ?_
  refine wLin 2 i94_1 rfl rfl ?_
  refine wLin 3 i94_2 rfl rfl ?_
  refine jCall 6 [.ref 0, .int (a1), .int (a2)] [] [(0, .ref 0), (1, .int (a1)), (2, .int (a2))] i94_3 rfl (xlk0 l94_162) (Or.inl rfl) m108 rfl rfl (Nat.le_of_ble_eq_true rfl) (Nat.le_of_ble_eq_true rfl) (Nat.le_of_ble_eq_true rfl) rfl rfl rfl ?_
  refine wLan 1 i108_0 rfl rfl ?_
  refine wLin 2 i108_1 rfl rfl ?_
  refine wLin 3 i108_2 rfl rfl ?_
  refine wKb 5 63 i108_3 (by decide) rfl ?_
  refine jCall 8 [.ref 0, .int (a1), .int (a2), .int 63] [] [(0, .ref 0), (1, .int (a1)), (2, .int (a2)), (3, .int 63)] i108_5 rfl (xlk0 l108_196) (Or.inl rfl) m109 rfl rfl (Nat.le_of_ble_eq_true rfl) (Nat.le_of_ble_eq_true rfl) (Nat.le_of_ble_eq_true rfl) rfl rfl rfl ?_
  refine wLin 1 i109_0 rfl rfl ?_
  refine jCall 4 [.int (a1)] [] [(0, .int (a1))] i109_1 rfl (xlk1 l109_86) (Or.inr (Or.inl rfl)) m98 rfl rfl (Nat.le_of_ble_eq_true rfl) (Nat.le_of_ble_eq_true rfl) (Nat.le_of_ble_eq_true rfl) rfl rfl rfl ?_
  refine wLin 1 i98_0 rfl rfl ?_
  by_cases c1 : (a1) < 0
  ·
    refine wZT 14 i98_1 rfl (decide_eq_true c1) ?_
    refine wK 15 0 i98_14 (by decide) rfl ?_
    refine jRi i98_15 m98 (by decide) ?_
    refine wZT 16 i109_4 rfl (by decide) ?_
    refine wKb 18 (-2) i109_16 (by decide) rfl ?_
    refine jRi i109_18 m109 rfl ?_
    refine jRi i108_8 m108 rfl ?_
    refine wSin 7 [(3, .int (-2)), (0, .ref 0), (1, .int (a1)), (2, .int (a2))] i94_6 m94 (by decide) rfl rfl ?_
    refine wLin 8 i94_7 rfl rfl ?_
    refine wZF 13 11 i94_8 rfl (by decide) rfl ?_
    refine wLin 12 i94_11 rfl rfl ?_
    refine wRi i94_12 m94 rfl ?_
    refine ⟨congrArg (fun z => some (Value.int z)) ?_, xpre_of _ _ rfl, rfl⟩
    rw [sp_is, if_pos c1]
  ·
    refine wZF 14 4 i98_1 rfl (decide_eq_false c1) rfl ?_
    refine wLin 5 i98_4 rfl rfl ?_
    refine wKb 7 8 i98_5 (by decide) rfl ?_
    by_cases c2 : 8 ≤ (a1)
    ·
      refine wCT 14 i98_7 rfl (decide_eq_true c2) ?_
      refine wK 15 0 i98_14 (by decide) rfl ?_
      refine jRi i98_15 m98 (by decide) ?_
      refine wZT 16 i109_4 rfl (by decide) ?_
      refine wKb 18 (-2) i109_16 (by decide) rfl ?_
      refine jRi i109_18 m109 rfl ?_
      refine jRi i108_8 m108 rfl ?_
      refine wSin 7 [(3, .int (-2)), (0, .ref 0), (1, .int (a1)), (2, .int (a2))] i94_6 m94 (by decide) rfl rfl ?_
      refine wLin 8 i94_7 rfl rfl ?_
      refine wZF 13 11 i94_8 rfl (by decide) rfl ?_
      refine wLin 12 i94_11 rfl rfl ?_
      refine wRi i94_12 m94 rfl ?_
      refine ⟨congrArg (fun z => some (Value.int z)) ?_, xpre_of _ _ rfl, rfl⟩
      rw [sp_is, if_neg c1, if_pos c2]
    ·
      refine wCF 14 10 i98_7 rfl (decide_eq_false c2) rfl ?_
      refine wK 11 1 i98_10 (by decide) rfl ?_
      refine wGo 15 i98_11 rfl ?_
      refine jRi i98_15 m98 (by decide) ?_
      refine wZF 16 7 i109_4 rfl (by decide) rfl ?_
      refine wLin 8 i109_7 rfl rfl ?_
      by_cases c3 : (a2) < 0
      ·
        refine wZT 16 i109_8 rfl (decide_eq_true c3) ?_
        refine wKb 18 (-2) i109_16 (by decide) rfl ?_
        refine jRi i109_18 m109 rfl ?_
        refine jRi i108_8 m108 rfl ?_
        refine wSin 7 [(3, .int (-2)), (0, .ref 0), (1, .int (a1)), (2, .int (a2))] i94_6 m94 (by decide) rfl rfl ?_
        refine wLin 8 i94_7 rfl rfl ?_
        refine wZF 13 11 i94_8 rfl (by decide) rfl ?_
        refine wLin 12 i94_11 rfl rfl ?_
        refine wRi i94_12 m94 rfl ?_
        refine ⟨congrArg (fun z => some (Value.int z)) ?_, xpre_of _ _ rfl, rfl⟩
        rw [sp_is, if_neg c1, if_neg c2, if_pos c3]
      ·
        refine wZF 16 11 i109_8 rfl (decide_eq_false c3) rfl ?_
        refine wLin 12 i109_11 rfl rfl ?_
        refine wLin 13 i109_12 rfl rfl ?_
        by_cases c4 : (a2) ≤ 63
        ·
          refine wCT 19 i109_13 rfl (decide_eq_true c4) ?_
          refine wLan 20 i109_19 rfl rfl ?_
          refine wLin 21 i109_20 rfl rfl ?_
          refine jCall 24 [.ref 0, .int (a1)] [] [(0, .ref 0), (1, .int (a1))] i109_21 rfl (xlk0 l109_108) (Or.inl rfl) m95 rfl rfl (Nat.le_of_ble_eq_true rfl) (Nat.le_of_ble_eq_true rfl) (Nat.le_of_ble_eq_true rfl) rfl rfl rfl ?_
          refine wLan 1 i95_0 rfl rfl ?_
          refine wGet 4 (.ref 17) i95_1 f95_28 rfl rfl rfl ?_
          refine wGet 7 (.ref 18) i95_4 f95_104 rfl rfl rfl ?_
          refine wLin 8 i95_7 rfl rfl ?_
          refine wIal 9 i95_8 rfl (x_ib (Int32.not_lt.mp c1) (x_lt1 (z := 7) (Int32.not_le.mp c2) (by decide)) (by decide) (by decide)) rfl ?_
          refine tTop (v := 0) rfl ?_
          refine wZF 16 12 i95_9 rfl (by decide) rfl ?_
          refine wK 13 1 i95_12 (by decide) rfl ?_
          refine wGo 17 i95_13 rfl ?_
          refine jRi i95_17 m95 (by decide) ?_
          refine wZF 32 27 i109_24 rfl (by decide) rfl ?_
          refine wKb 29 (-3) i109_27 (by decide) rfl ?_
          refine wGo 33 i109_29 rfl ?_
          refine jRi i109_33 m109 rfl ?_
          refine jRi i108_8 m108 rfl ?_
          refine wSin 7 [(3, .int (-3)), (0, .ref 0), (1, .int (a1)), (2, .int (a2))] i94_6 m94 (by decide) rfl rfl ?_
          refine wLin 8 i94_7 rfl rfl ?_
          refine wZF 13 11 i94_8 rfl (by decide) rfl ?_
          refine wLin 12 i94_11 rfl rfl ?_
          refine wRi i94_12 m94 rfl ?_
          refine ⟨congrArg (fun z => some (Value.int z)) ?_, xpre_of _ _ rfl, rfl⟩
          rw [sp_is, if_neg c1, if_neg c2, if_neg c3, if_pos c4]
        ·
          refine wCF 19 16 i109_13 rfl (decide_eq_false c4) rfl ?_
          refine wKb 18 (-2) i109_16 (by decide) rfl ?_
          refine jRi i109_18 m109 rfl ?_
          refine jRi i108_8 m108 rfl ?_
          refine wSin 7 [(3, .int (-2)), (0, .ref 0), (1, .int (a1)), (2, .int (a2))] i94_6 m94 (by decide) rfl rfl ?_
          refine wLin 8 i94_7 rfl rfl ?_
          refine wZF 13 11 i94_8 rfl (by decide) rfl ?_
          refine wLin 12 i94_11 rfl rfl ?_
          refine wRi i94_12 m94 rfl ?_
          refine ⟨congrArg (fun z => some (Value.int z)) ?_, xpre_of _ _ rfl, rfl⟩
          rw [sp_is, if_neg c1, if_neg c2, if_neg c3, if_neg c4]
def sp_head (a1 : Int32) (a2 : Int32) : Int64 := (if (a1) < 0 then (-4611686018427387904) else (if 8 ≤ (a1) then (-4611686018427387904) else (if (a2) < 0 then (-4611686018427387904) else (if (a2) ≤ 63 then (-4611686018427387904) else (-4611686018427387904)))))
set_option maxHeartbeats 4000000 in
set_option maxRecDepth 100000 in
theorem q_head {sc : xS} {d : Nat} (t : xH) (a1 : Int32) (a2 : Int32) : xT xg sc (d + 12) 91 0 [(0, .ref 0), (1, .int (a1)), (2, .int (a2))] [] (hC t) (fun r => r.1 = some (.long (sp_head a1 a2)) ∧ (∃ f, r.2.1 = xpre f t) ∧ r.2.2 = (0, 0)) := by
  refine wLan 1 i91_0 rfl rfl ?_
  refine wLin 2 i91_1 rfl rfl ?_
  refine wLin 3 i91_2 rfl rfl ?_
  refine jCall 6 [.ref 0, .int (a1), .int (a2)] [] [(0, .ref 0), (1, .int (a1)), (2, .int (a2))] i91_3 rfl (xlk0 l91_162) (Or.inl rfl) m108 rfl rfl (Nat.le_of_ble_eq_true rfl) (Nat.le_of_ble_eq_true rfl) (Nat.le_of_ble_eq_true rfl) rfl rfl rfl ?_
  refine wLan 1 i108_0 rfl rfl ?_
  refine wLin 2 i108_1 rfl rfl ?_
  refine wLin 3 i108_2 rfl rfl ?_
  refine wKb 5 63 i108_3 (by decide) rfl ?_
  refine jCall 8 [.ref 0, .int (a1), .int (a2), .int 63] [] [(0, .ref 0), (1, .int (a1)), (2, .int (a2)), (3, .int 63)] i108_5 rfl (xlk0 l108_196) (Or.inl rfl) m109 rfl rfl (Nat.le_of_ble_eq_true rfl) (Nat.le_of_ble_eq_true rfl) (Nat.le_of_ble_eq_true rfl) rfl rfl rfl ?_
  refine wLin 1 i109_0 rfl rfl ?_
  refine jCall 4 [.int (a1)] [] [(0, .int (a1))] i109_1 rfl (xlk1 l109_86) (Or.inr (Or.inl rfl)) m98 rfl rfl (Nat.le_of_ble_eq_true rfl) (Nat.le_of_ble_eq_true rfl) (Nat.le_of_ble_eq_true rfl) rfl rfl rfl ?_
  refine wLin 1 i98_0 rfl rfl ?_
  by_cases c1 : (a1) < 0
  ·
    refine wZT 14 i98_1 rfl (decide_eq_true c1) ?_
    refine wK 15 0 i98_14 (by decide) rfl ?_
    refine jRi i98_15 m98 (by decide) ?_
    refine wZT 16 i109_4 rfl (by decide) ?_
    refine wKb 18 (-2) i109_16 (by decide) rfl ?_
    refine jRi i109_18 m109 rfl ?_
    refine jRi i108_8 m108 rfl ?_
    refine wZF 13 9 i91_6 rfl (by decide) rfl ?_
    refine wKd 12 (-4611686018427387904) i91_9 c91_133 rfl ?_
    refine wRl i91_12 m91 ?_
    refine ⟨congrArg (fun z => some (Value.long z)) ?_, xpre_of _ _ rfl, rfl⟩
    rw [sp_head, if_pos c1]
  ·
    refine wZF 14 4 i98_1 rfl (decide_eq_false c1) rfl ?_
    refine wLin 5 i98_4 rfl rfl ?_
    refine wKb 7 8 i98_5 (by decide) rfl ?_
    by_cases c2 : 8 ≤ (a1)
    ·
      refine wCT 14 i98_7 rfl (decide_eq_true c2) ?_
      refine wK 15 0 i98_14 (by decide) rfl ?_
      refine jRi i98_15 m98 (by decide) ?_
      refine wZT 16 i109_4 rfl (by decide) ?_
      refine wKb 18 (-2) i109_16 (by decide) rfl ?_
      refine jRi i109_18 m109 rfl ?_
      refine jRi i108_8 m108 rfl ?_
      refine wZF 13 9 i91_6 rfl (by decide) rfl ?_
      refine wKd 12 (-4611686018427387904) i91_9 c91_133 rfl ?_
      refine wRl i91_12 m91 ?_
      refine ⟨congrArg (fun z => some (Value.long z)) ?_, xpre_of _ _ rfl, rfl⟩
      rw [sp_head, if_neg c1, if_pos c2]
    ·
      refine wCF 14 10 i98_7 rfl (decide_eq_false c2) rfl ?_
      refine wK 11 1 i98_10 (by decide) rfl ?_
      refine wGo 15 i98_11 rfl ?_
      refine jRi i98_15 m98 (by decide) ?_
      refine wZF 16 7 i109_4 rfl (by decide) rfl ?_
      refine wLin 8 i109_7 rfl rfl ?_
      by_cases c3 : (a2) < 0
      ·
        refine wZT 16 i109_8 rfl (decide_eq_true c3) ?_
        refine wKb 18 (-2) i109_16 (by decide) rfl ?_
        refine jRi i109_18 m109 rfl ?_
        refine jRi i108_8 m108 rfl ?_
        refine wZF 13 9 i91_6 rfl (by decide) rfl ?_
        refine wKd 12 (-4611686018427387904) i91_9 c91_133 rfl ?_
        refine wRl i91_12 m91 ?_
        refine ⟨congrArg (fun z => some (Value.long z)) ?_, xpre_of _ _ rfl, rfl⟩
        rw [sp_head, if_neg c1, if_neg c2, if_pos c3]
      ·
        refine wZF 16 11 i109_8 rfl (decide_eq_false c3) rfl ?_
        refine wLin 12 i109_11 rfl rfl ?_
        refine wLin 13 i109_12 rfl rfl ?_
        by_cases c4 : (a2) ≤ 63
        ·
          refine wCT 19 i109_13 rfl (decide_eq_true c4) ?_
          refine wLan 20 i109_19 rfl rfl ?_
          refine wLin 21 i109_20 rfl rfl ?_
          refine jCall 24 [.ref 0, .int (a1)] [] [(0, .ref 0), (1, .int (a1))] i109_21 rfl (xlk0 l109_108) (Or.inl rfl) m95 rfl rfl (Nat.le_of_ble_eq_true rfl) (Nat.le_of_ble_eq_true rfl) (Nat.le_of_ble_eq_true rfl) rfl rfl rfl ?_
          refine wLan 1 i95_0 rfl rfl ?_
          refine wGet 4 (.ref 17) i95_1 f95_28 rfl rfl rfl ?_
          refine wGet 7 (.ref 18) i95_4 f95_104 rfl rfl rfl ?_
          refine wLin 8 i95_7 rfl rfl ?_
          refine wIal 9 i95_8 rfl (x_ib (Int32.not_lt.mp c1) (x_lt1 (z := 7) (Int32.not_le.mp c2) (by decide)) (by decide) (by decide)) rfl ?_
          refine tTop (v := 0) rfl ?_
          refine wZF 16 12 i95_9 rfl (by decide) rfl ?_
          refine wK 13 1 i95_12 (by decide) rfl ?_
          refine wGo 17 i95_13 rfl ?_
          refine jRi i95_17 m95 (by decide) ?_
          refine wZF 32 27 i109_24 rfl (by decide) rfl ?_
          refine wKb 29 (-3) i109_27 (by decide) rfl ?_
          refine wGo 33 i109_29 rfl ?_
          refine jRi i109_33 m109 rfl ?_
          refine jRi i108_8 m108 rfl ?_
          refine wZF 13 9 i91_6 rfl (by decide) rfl ?_
          refine wKd 12 (-4611686018427387904) i91_9 c91_133 rfl ?_
          refine wRl i91_12 m91 ?_
          refine ⟨congrArg (fun z => some (Value.long z)) ?_, xpre_of _ _ rfl, rfl⟩
          rw [sp_head, if_neg c1, if_neg c2, if_neg c3, if_pos c4]
        ·
          refine wCF 19 16 i109_13 rfl (decide_eq_false c4) rfl ?_
          refine wKb 18 (-2) i109_16 (by decide) rfl ?_
          refine jRi i109_18 m109 rfl ?_
          refine jRi i108_8 m108 rfl ?_
          refine wZF 13 9 i91_6 rfl (by decide) rfl ?_
          refine wKd 12 (-4611686018427387904) i91_9 c91_133 rfl ?_
          refine wRl i91_12 m91 ?_
          refine ⟨congrArg (fun z => some (Value.long z)) ?_, xpre_of _ _ rfl, rfl⟩
          rw [sp_head, if_neg c1, if_neg c2, if_neg c3, if_neg c4]
def sp_need (a1 : Int32) (a2 : Int32) : Int32 := (if (a1) < 0 then (-2) else (if 8 ≤ (a1) then (-2) else (if (a2) < 0 then (-2) else (if (a2) ≤ 63 then (-3) else (-2)))))
set_option maxHeartbeats 4000000 in
set_option maxRecDepth 100000 in
theorem q_need {sc : xS} {d : Nat} (t : xH) (a1 : Int32) (a2 : Int32) : xT xg sc (d + 12) 103 0 [(0, .ref 0), (1, .int (a1)), (2, .int (a2))] [] (hC t) (fun r => r.1 = some (.int (sp_need a1 a2)) ∧ (∃ f, r.2.1 = xpre f t) ∧ r.2.2 = (0, 0)) := by
  refine wLan 1 i103_0 rfl rfl ?_
  refine wLin 2 i103_1 rfl rfl ?_
  refine wLin 3 i103_2 rfl rfl ?_
  refine jCall 6 [.ref 0, .int (a1), .int (a2)] [] [(0, .ref 0), (1, .int (a1)), (2, .int (a2))] i103_3 rfl (xlk0 l103_162) (Or.inl rfl) m108 rfl rfl (Nat.le_of_ble_eq_true rfl) (Nat.le_of_ble_eq_true rfl) (Nat.le_of_ble_eq_true rfl) rfl rfl rfl ?_
  refine wLan 1 i108_0 rfl rfl ?_
  refine wLin 2 i108_1 rfl rfl ?_
  refine wLin 3 i108_2 rfl rfl ?_
  refine wKb 5 63 i108_3 (by decide) rfl ?_
  refine jCall 8 [.ref 0, .int (a1), .int (a2), .int 63] [] [(0, .ref 0), (1, .int (a1)), (2, .int (a2)), (3, .int 63)] i108_5 rfl (xlk0 l108_196) (Or.inl rfl) m109 rfl rfl (Nat.le_of_ble_eq_true rfl) (Nat.le_of_ble_eq_true rfl) (Nat.le_of_ble_eq_true rfl) rfl rfl rfl ?_
  refine wLin 1 i109_0 rfl rfl ?_
  refine jCall 4 [.int (a1)] [] [(0, .int (a1))] i109_1 rfl (xlk1 l109_86) (Or.inr (Or.inl rfl)) m98 rfl rfl (Nat.le_of_ble_eq_true rfl) (Nat.le_of_ble_eq_true rfl) (Nat.le_of_ble_eq_true rfl) rfl rfl rfl ?_
  refine wLin 1 i98_0 rfl rfl ?_
  by_cases c1 : (a1) < 0
  ·
    refine wZT 14 i98_1 rfl (decide_eq_true c1) ?_
    refine wK 15 0 i98_14 (by decide) rfl ?_
    refine jRi i98_15 m98 (by decide) ?_
    refine wZT 16 i109_4 rfl (by decide) ?_
    refine wKb 18 (-2) i109_16 (by decide) rfl ?_
    refine jRi i109_18 m109 rfl ?_
    refine jRi i108_8 m108 rfl ?_
    refine wSin 7 [(3, .int (-2)), (0, .ref 0), (1, .int (a1)), (2, .int (a2))] i103_6 m103 (by decide) rfl rfl ?_
    refine wLin 8 i103_7 rfl rfl ?_
    refine wZF 13 11 i103_8 rfl (by decide) rfl ?_
    refine wLin 12 i103_11 rfl rfl ?_
    refine wRi i103_12 m103 rfl ?_
    refine ⟨congrArg (fun z => some (Value.int z)) ?_, xpre_of _ _ rfl, rfl⟩
    rw [sp_need, if_pos c1]
  ·
    refine wZF 14 4 i98_1 rfl (decide_eq_false c1) rfl ?_
    refine wLin 5 i98_4 rfl rfl ?_
    refine wKb 7 8 i98_5 (by decide) rfl ?_
    by_cases c2 : 8 ≤ (a1)
    ·
      refine wCT 14 i98_7 rfl (decide_eq_true c2) ?_
      refine wK 15 0 i98_14 (by decide) rfl ?_
      refine jRi i98_15 m98 (by decide) ?_
      refine wZT 16 i109_4 rfl (by decide) ?_
      refine wKb 18 (-2) i109_16 (by decide) rfl ?_
      refine jRi i109_18 m109 rfl ?_
      refine jRi i108_8 m108 rfl ?_
      refine wSin 7 [(3, .int (-2)), (0, .ref 0), (1, .int (a1)), (2, .int (a2))] i103_6 m103 (by decide) rfl rfl ?_
      refine wLin 8 i103_7 rfl rfl ?_
      refine wZF 13 11 i103_8 rfl (by decide) rfl ?_
      refine wLin 12 i103_11 rfl rfl ?_
      refine wRi i103_12 m103 rfl ?_
      refine ⟨congrArg (fun z => some (Value.int z)) ?_, xpre_of _ _ rfl, rfl⟩
      rw [sp_need, if_neg c1, if_pos c2]
    ·
      refine wCF 14 10 i98_7 rfl (decide_eq_false c2) rfl ?_
      refine wK 11 1 i98_10 (by decide) rfl ?_
      refine wGo 15 i98_11 rfl ?_
      refine jRi i98_15 m98 (by decide) ?_
      refine wZF 16 7 i109_4 rfl (by decide) rfl ?_
      refine wLin 8 i109_7 rfl rfl ?_
      by_cases c3 : (a2) < 0
      ·
        refine wZT 16 i109_8 rfl (decide_eq_true c3) ?_
        refine wKb 18 (-2) i109_16 (by decide) rfl ?_
        refine jRi i109_18 m109 rfl ?_
        refine jRi i108_8 m108 rfl ?_
        refine wSin 7 [(3, .int (-2)), (0, .ref 0), (1, .int (a1)), (2, .int (a2))] i103_6 m103 (by decide) rfl rfl ?_
        refine wLin 8 i103_7 rfl rfl ?_
        refine wZF 13 11 i103_8 rfl (by decide) rfl ?_
        refine wLin 12 i103_11 rfl rfl ?_
        refine wRi i103_12 m103 rfl ?_
        refine ⟨congrArg (fun z => some (Value.int z)) ?_, xpre_of _ _ rfl, rfl⟩
        rw [sp_need, if_neg c1, if_neg c2, if_pos c3]
      ·
        refine wZF 16 11 i109_8 rfl (decide_eq_false c3) rfl ?_
        refine wLin 12 i109_11 rfl rfl ?_
        refine wLin 13 i109_12 rfl rfl ?_
        by_cases c4 : (a2) ≤ 63
        ·
          refine wCT 19 i109_13 rfl (decide_eq_true c4) ?_
          refine wLan 20 i109_19 rfl rfl ?_
          refine wLin 21 i109_20 rfl rfl ?_
          refine jCall 24 [.ref 0, .int (a1)] [] [(0, .ref 0), (1, .int (a1))] i109_21 rfl (xlk0 l109_108) (Or.inl rfl) m95 rfl rfl (Nat.le_of_ble_eq_true rfl) (Nat.le_of_ble_eq_true rfl) (Nat.le_of_ble_eq_true rfl) rfl rfl rfl ?_
          refine wLan 1 i95_0 rfl rfl ?_
          refine wGet 4 (.ref 17) i95_1 f95_28 rfl rfl rfl ?_
          refine wGet 7 (.ref 18) i95_4 f95_104 rfl rfl rfl ?_
          refine wLin 8 i95_7 rfl rfl ?_
          refine wIal 9 i95_8 rfl (x_ib (Int32.not_lt.mp c1) (x_lt1 (z := 7) (Int32.not_le.mp c2) (by decide)) (by decide) (by decide)) rfl ?_
          refine tTop (v := 0) rfl ?_
          refine wZF 16 12 i95_9 rfl (by decide) rfl ?_
          refine wK 13 1 i95_12 (by decide) rfl ?_
          refine wGo 17 i95_13 rfl ?_
          refine jRi i95_17 m95 (by decide) ?_
          refine wZF 32 27 i109_24 rfl (by decide) rfl ?_
          refine wKb 29 (-3) i109_27 (by decide) rfl ?_
          refine wGo 33 i109_29 rfl ?_
          refine jRi i109_33 m109 rfl ?_
          refine jRi i108_8 m108 rfl ?_
          refine wSin 7 [(3, .int (-3)), (0, .ref 0), (1, .int (a1)), (2, .int (a2))] i103_6 m103 (by decide) rfl rfl ?_
          refine wLin 8 i103_7 rfl rfl ?_
          refine wZF 13 11 i103_8 rfl (by decide) rfl ?_
          refine wLin 12 i103_11 rfl rfl ?_
          refine wRi i103_12 m103 rfl ?_
          refine ⟨congrArg (fun z => some (Value.int z)) ?_, xpre_of _ _ rfl, rfl⟩
          rw [sp_need, if_neg c1, if_neg c2, if_neg c3, if_pos c4]
        ·
          refine wCF 19 16 i109_13 rfl (decide_eq_false c4) rfl ?_
          refine wKb 18 (-2) i109_16 (by decide) rfl ?_
          refine jRi i109_18 m109 rfl ?_
          refine jRi i108_8 m108 rfl ?_
          refine wSin 7 [(3, .int (-2)), (0, .ref 0), (1, .int (a1)), (2, .int (a2))] i103_6 m103 (by decide) rfl rfl ?_
          refine wLin 8 i103_7 rfl rfl ?_
          refine wZF 13 11 i103_8 rfl (by decide) rfl ?_
          refine wLin 12 i103_11 rfl rfl ?_
          refine wRi i103_12 m103 rfl ?_
          refine ⟨congrArg (fun z => some (Value.int z)) ?_, xpre_of _ _ rfl, rfl⟩
          rw [sp_need, if_neg c1, if_neg c2, if_neg c3, if_neg c4]
def sp_limit (a1 : Int32) : Int32 := (if (a1) < 0 then (-2) else (if (a1) ≤ 99 then 99 else (-2)))
set_option maxHeartbeats 4000000 in
set_option maxRecDepth 100000 in
theorem q_limit {sc : xS} {d : Nat} (t : xH) (a1 : Int32) : xT xg sc (d + 12) 102 0 [(0, .ref 0), (1, .int (a1))] [] (hC t) (fun r => r.1 = some (.int (sp_limit a1)) ∧ (∃ f, r.2.1 = xpre f t) ∧ r.2.2 = (0, 0)) := by
  refine wLin 1 i102_0 rfl rfl ?_
  by_cases c1 : (a1) < 0
  ·
    refine wZT 10 i102_1 rfl (decide_eq_true c1) ?_
    refine wKb 12 (-2) i102_10 (by decide) rfl ?_
    refine wRi i102_12 m102 rfl ?_
    refine ⟨congrArg (fun z => some (Value.int z)) ?_, xpre_of _ _ rfl, rfl⟩
    rw [sp_limit, if_pos c1]
  ·
    refine wZF 10 4 i102_1 rfl (decide_eq_false c1) rfl ?_
    refine wLin 5 i102_4 rfl rfl ?_
    refine wKb 7 99 i102_5 (by decide) rfl ?_
    by_cases c2 : (a1) ≤ 99
    ·
      refine wCT 13 i102_7 rfl (decide_eq_true c2) ?_
      refine wLan 14 i102_13 rfl rfl ?_
      refine wGet 17 (.int 99) i102_14 f102_76 rfl rfl rfl ?_
      refine wSin 18 [(2, .int 99), (0, .ref 0), (1, .int (a1))] i102_17 m102 (by decide) rfl rfl ?_
      refine wLan 19 i102_18 rfl rfl ?_
      refine wLin 20 i102_19 rfl rfl ?_
      refine wPut 23 i102_20 p102_76 rfl (by decide) rfl rfl rfl ?_
      refine wLin 24 i102_23 rfl rfl ?_
      refine wRi i102_24 m102 rfl ?_
      refine ⟨congrArg (fun z => some (Value.int z)) ?_, xpre_of _ _ rfl, rfl⟩
      rw [sp_limit, if_neg c1, if_pos c2]
    ·
      refine wCF 13 10 i102_7 rfl (decide_eq_false c2) rfl ?_
      refine wKb 12 (-2) i102_10 (by decide) rfl ?_
      refine wRi i102_12 m102 rfl ?_
      refine ⟨congrArg (fun z => some (Value.int z)) ?_, xpre_of _ _ rfl, rfl⟩
      rw [sp_limit, if_neg c1, if_neg c2]
def sp_forget  : Int32 := 0
set_option maxHeartbeats 4000000 in
set_option maxRecDepth 100000 in
theorem q_forget {sc : xS} {d : Nat} (t : xH)  : xT xg sc (d + 12) 89 0 [(0, .ref 0)] [] (hC t) (fun r => r.1 = some (.int (sp_forget )) ∧ (∃ f, r.2.1 = xpre f t) ∧ r.2.2 = (0, 0)) := by
  refine wLan 1 i89_0 rfl rfl ?_
  refine wGet 4 (.ref 26) i89_1 f89_35 rfl rfl rfl ?_
  refine jCall 7 [.ref 26] [] [(0, .ref 26)] i89_4 rfl (xlk0 l89_190) (Or.inl rfl) m72 rfl rfl (Nat.le_of_ble_eq_true rfl) (Nat.le_of_ble_eq_true rfl) (Nat.le_of_ble_eq_true rfl) rfl rfl rfl ?_
  refine wK 1 0 i72_0 (by decide) rfl ?_
  refine wSin 2 [(1, .int 0), (0, .ref 26)] i72_1 m72 (by decide) rfl rfl ?_
  refine wK 3 0 i72_2 (by decide) rfl ?_
  refine wSin 4 [(2, .int 0), (1, .int 0), (0, .ref 26)] i72_3 m72 (by decide) rfl rfl ?_
  refine wLin 5 i72_4 rfl rfl ?_
  refine wLan 6 i72_5 rfl rfl ?_
  refine wGet 9 (.int 0) i72_6 f72_9 rfl rfl rfl ?_
  refine wCT 32 i72_9 rfl (by decide) ?_
  refine wLin 33 i72_32 rfl rfl ?_
  refine jRi i72_33 m72 rfl ?_
  refine wLan 8 i89_7 rfl rfl ?_
  refine wGet 11 (.ref 26) i89_8 f89_35 rfl rfl rfl ?_
  refine jCall 14 [.ref 26] [.int 0] [(0, .ref 26)] i89_11 rfl (xlk0 l89_193) (Or.inl rfl) m71 rfl rfl (Nat.le_of_ble_eq_true rfl) (Nat.le_of_ble_eq_true rfl) (Nat.le_of_ble_eq_true rfl) rfl rfl rfl ?_
  refine wK 1 0 i71_0 (by decide) rfl ?_
  refine wSin 2 [(1, .int 0), (0, .ref 26)] i71_1 m71 (by decide) rfl rfl ?_
  refine wK 3 0 i71_2 (by decide) rfl ?_
  refine wSin 4 [(2, .int 0), (1, .int 0), (0, .ref 26)] i71_3 m71 (by decide) rfl rfl ?_
  refine wLin 5 i71_4 rfl rfl ?_
  refine wLan 6 i71_5 rfl rfl ?_
  refine wGet 9 (.int 0) i71_6 f71_9 rfl rfl rfl ?_
  refine wCT 32 i71_9 rfl (by decide) ?_
  refine wLin 33 i71_32 rfl rfl ?_
  refine jRi i71_33 m71 rfl ?_
  refine wA 15 i89_14 rfl rfl rfl ?_
  refine tTop (v := 0) (by decide) ?_
  refine wSin 16 [(1, .int 0), (0, .ref 0)] i89_15 m89 (by decide) rfl rfl ?_
  refine wLan 17 i89_16 rfl rfl ?_
  refine wGet 20 (.ref 26) i89_17 f89_35 rfl rfl rfl ?_
  refine jCall 23 [.ref 26] [] [(0, .ref 26)] i89_20 rfl (xlk0 l89_101) (Or.inl rfl) m77 rfl rfl (Nat.le_of_ble_eq_true rfl) (Nat.le_of_ble_eq_true rfl) (Nat.le_of_ble_eq_true rfl) rfl rfl rfl ?_
  refine wK 1 0 i77_0 (by decide) rfl ?_
  refine wSin 2 [(1, .int 0), (0, .ref 26)] i77_1 m77 (by decide) rfl rfl ?_
  refine wLin 3 i77_2 rfl rfl ?_
  refine wLan 4 i77_3 rfl rfl ?_
  refine wGet 7 (.int 0) i77_4 f77_9 rfl rfl rfl ?_
  refine wCT 26 i77_7 rfl (by decide) ?_
  refine wLan 27 i77_26 rfl rfl ?_
  refine wK 28 0 i77_27 (by decide) rfl ?_
  refine wPutS 31 i77_28 p77_9 rfl rfl rfl rfl rfl ?_
  refine jR0 i77_31 m77 ?_
  refine wLin 24 i89_23 rfl rfl ?_
  refine wRi i89_24 m89 rfl ?_
  refine ⟨congrArg (fun z => some (Value.int z)) ?_, xpre_of _ _ rfl, rfl⟩
  rw [sp_forget]
def sp_sum (a1 : Int32) (a2 : Int32) : Int64 := (if (a1) < 0 then (-4611686018427387904) else (if 8 ≤ (a1) then (-4611686018427387904) else (if (a2) < 0 then (-4611686018427387904) else (if (a2) ≤ 64 then (-4611686018427387904) else (-4611686018427387904)))))
set_option maxHeartbeats 4000000 in
set_option maxRecDepth 100000 in
theorem q_sum {sc : xS} {d : Nat} (t : xH) (a1 : Int32) (a2 : Int32) : xT xg sc (d + 12) 112 0 [(0, .ref 0), (1, .int (a1)), (2, .int (a2))] [] (hC t) (fun r => r.1 = some (.long (sp_sum a1 a2)) ∧ (∃ f, r.2.1 = xpre f t) ∧ r.2.2 = (0, 0)) := by
  refine wLan 1 i112_0 rfl rfl ?_
  refine wLin 2 i112_1 rfl rfl ?_
  refine wLin 3 i112_2 rfl rfl ?_
  refine wKb 5 64 i112_3 (by decide) rfl ?_
  refine jCall 8 [.ref 0, .int (a1), .int (a2), .int 64] [] [(0, .ref 0), (1, .int (a1)), (2, .int (a2)), (3, .int 64)] i112_5 rfl (xlk0 l112_196) (Or.inl rfl) m109 rfl rfl (Nat.le_of_ble_eq_true rfl) (Nat.le_of_ble_eq_true rfl) (Nat.le_of_ble_eq_true rfl) rfl rfl rfl ?_
  refine wLin 1 i109_0 rfl rfl ?_
  refine jCall 4 [.int (a1)] [] [(0, .int (a1))] i109_1 rfl (xlk1 l109_86) (Or.inr (Or.inl rfl)) m98 rfl rfl (Nat.le_of_ble_eq_true rfl) (Nat.le_of_ble_eq_true rfl) (Nat.le_of_ble_eq_true rfl) rfl rfl rfl ?_
  refine wLin 1 i98_0 rfl rfl ?_
  by_cases c1 : (a1) < 0
  ·
    refine wZT 14 i98_1 rfl (decide_eq_true c1) ?_
    refine wK 15 0 i98_14 (by decide) rfl ?_
    refine jRi i98_15 m98 (by decide) ?_
    refine wZT 16 i109_4 rfl (by decide) ?_
    refine wKb 18 (-2) i109_16 (by decide) rfl ?_
    refine jRi i109_18 m109 rfl ?_
    refine wZF 15 11 i112_8 rfl (by decide) rfl ?_
    refine wKd 14 (-4611686018427387904) i112_11 c112_133 rfl ?_
    refine wRl i112_14 m112 ?_
    refine ⟨congrArg (fun z => some (Value.long z)) ?_, xpre_of _ _ rfl, rfl⟩
    rw [sp_sum, if_pos c1]
  ·
    refine wZF 14 4 i98_1 rfl (decide_eq_false c1) rfl ?_
    refine wLin 5 i98_4 rfl rfl ?_
    refine wKb 7 8 i98_5 (by decide) rfl ?_
    by_cases c2 : 8 ≤ (a1)
    ·
      refine wCT 14 i98_7 rfl (decide_eq_true c2) ?_
      refine wK 15 0 i98_14 (by decide) rfl ?_
      refine jRi i98_15 m98 (by decide) ?_
      refine wZT 16 i109_4 rfl (by decide) ?_
      refine wKb 18 (-2) i109_16 (by decide) rfl ?_
      refine jRi i109_18 m109 rfl ?_
      refine wZF 15 11 i112_8 rfl (by decide) rfl ?_
      refine wKd 14 (-4611686018427387904) i112_11 c112_133 rfl ?_
      refine wRl i112_14 m112 ?_
      refine ⟨congrArg (fun z => some (Value.long z)) ?_, xpre_of _ _ rfl, rfl⟩
      rw [sp_sum, if_neg c1, if_pos c2]
    ·
      refine wCF 14 10 i98_7 rfl (decide_eq_false c2) rfl ?_
      refine wK 11 1 i98_10 (by decide) rfl ?_
      refine wGo 15 i98_11 rfl ?_
      refine jRi i98_15 m98 (by decide) ?_
      refine wZF 16 7 i109_4 rfl (by decide) rfl ?_
      refine wLin 8 i109_7 rfl rfl ?_
      by_cases c3 : (a2) < 0
      ·
        refine wZT 16 i109_8 rfl (decide_eq_true c3) ?_
        refine wKb 18 (-2) i109_16 (by decide) rfl ?_
        refine jRi i109_18 m109 rfl ?_
        refine wZF 15 11 i112_8 rfl (by decide) rfl ?_
        refine wKd 14 (-4611686018427387904) i112_11 c112_133 rfl ?_
        refine wRl i112_14 m112 ?_
        refine ⟨congrArg (fun z => some (Value.long z)) ?_, xpre_of _ _ rfl, rfl⟩
        rw [sp_sum, if_neg c1, if_neg c2, if_pos c3]
      ·
        refine wZF 16 11 i109_8 rfl (decide_eq_false c3) rfl ?_
        refine wLin 12 i109_11 rfl rfl ?_
        refine wLin 13 i109_12 rfl rfl ?_
        by_cases c4 : (a2) ≤ 64
        ·
          refine wCT 19 i109_13 rfl (decide_eq_true c4) ?_
          refine wLan 20 i109_19 rfl rfl ?_
          refine wLin 21 i109_20 rfl rfl ?_
          refine jCall 24 [.ref 0, .int (a1)] [] [(0, .ref 0), (1, .int (a1))] i109_21 rfl (xlk0 l109_108) (Or.inl rfl) m95 rfl rfl (Nat.le_of_ble_eq_true rfl) (Nat.le_of_ble_eq_true rfl) (Nat.le_of_ble_eq_true rfl) rfl rfl rfl ?_
          refine wLan 1 i95_0 rfl rfl ?_
          refine wGet 4 (.ref 17) i95_1 f95_28 rfl rfl rfl ?_
          refine wGet 7 (.ref 18) i95_4 f95_104 rfl rfl rfl ?_
          refine wLin 8 i95_7 rfl rfl ?_
          refine wIal 9 i95_8 rfl (x_ib (Int32.not_lt.mp c1) (x_lt1 (z := 7) (Int32.not_le.mp c2) (by decide)) (by decide) (by decide)) rfl ?_
          refine tTop (v := 0) rfl ?_
          refine wZF 16 12 i95_9 rfl (by decide) rfl ?_
          refine wK 13 1 i95_12 (by decide) rfl ?_
          refine wGo 17 i95_13 rfl ?_
          refine jRi i95_17 m95 (by decide) ?_
          refine wZF 32 27 i109_24 rfl (by decide) rfl ?_
          refine wKb 29 (-3) i109_27 (by decide) rfl ?_
          refine wGo 33 i109_29 rfl ?_
          refine jRi i109_33 m109 rfl ?_
          refine wZF 15 11 i112_8 rfl (by decide) rfl ?_
          refine wKd 14 (-4611686018427387904) i112_11 c112_133 rfl ?_
          refine wRl i112_14 m112 ?_
          refine ⟨congrArg (fun z => some (Value.long z)) ?_, xpre_of _ _ rfl, rfl⟩
          rw [sp_sum, if_neg c1, if_neg c2, if_neg c3, if_pos c4]
        ·
          refine wCF 19 16 i109_13 rfl (decide_eq_false c4) rfl ?_
          refine wKb 18 (-2) i109_16 (by decide) rfl ?_
          refine jRi i109_18 m109 rfl ?_
          refine wZF 15 11 i112_8 rfl (by decide) rfl ?_
          refine wKd 14 (-4611686018427387904) i112_11 c112_133 rfl ?_
          refine wRl i112_14 m112 ?_
          refine ⟨congrArg (fun z => some (Value.long z)) ?_, xpre_of _ _ rfl, rfl⟩
          rw [sp_sum, if_neg c1, if_neg c2, if_neg c3, if_neg c4]
def sp_find (a1 : Int32) (a2 : Int64) (a3 : Int32) : Int32 := (if (a1) < 0 then (-2) else (if 8 ≤ (a1) then (-2) else (if (a3) < 0 then (-2) else (if (a3) ≤ 64 then (-3) else (-2)))))
set_option maxHeartbeats 4000000 in
set_option maxRecDepth 100000 in
theorem q_find {sc : xS} {d : Nat} (t : xH) (a1 : Int32) (a2 : Int64) (a3 : Int32) : xT xg sc (d + 12) 88 0 [(0, .ref 0), (1, .int (a1)), (2, .long (a2)), (4, .int (a3))] [] (hC t) (fun r => r.1 = some (.int (sp_find a1 a2 a3)) ∧ (∃ f, r.2.1 = xpre f t) ∧ r.2.2 = (0, 0)) := by
  refine wLan 1 i88_0 rfl rfl ?_
  refine wLin 2 i88_1 rfl rfl ?_
  refine wLi 4 i88_2 rfl rfl ?_
  refine wKb 6 64 i88_4 (by decide) rfl ?_
  refine jCall 9 [.ref 0, .int (a1), .int (a3), .int 64] [] [(0, .ref 0), (1, .int (a1)), (2, .int (a3)), (3, .int 64)] i88_6 rfl (xlk0 l88_196) (Or.inl rfl) m109 rfl rfl (Nat.le_of_ble_eq_true rfl) (Nat.le_of_ble_eq_true rfl) (Nat.le_of_ble_eq_true rfl) rfl rfl rfl ?_
  refine wLin 1 i109_0 rfl rfl ?_
  refine jCall 4 [.int (a1)] [] [(0, .int (a1))] i109_1 rfl (xlk1 l109_86) (Or.inr (Or.inl rfl)) m98 rfl rfl (Nat.le_of_ble_eq_true rfl) (Nat.le_of_ble_eq_true rfl) (Nat.le_of_ble_eq_true rfl) rfl rfl rfl ?_
  refine wLin 1 i98_0 rfl rfl ?_
  by_cases c1 : (a1) < 0
  ·
    refine wZT 14 i98_1 rfl (decide_eq_true c1) ?_
    refine wK 15 0 i98_14 (by decide) rfl ?_
    refine jRi i98_15 m98 (by decide) ?_
    refine wZT 16 i109_4 rfl (by decide) ?_
    refine wKb 18 (-2) i109_16 (by decide) rfl ?_
    refine jRi i109_18 m109 rfl ?_
    refine wSi 11 [(5, .int (-2)), (0, .ref 0), (1, .int (a1)), (2, .long (a2)), (4, .int (a3))] i88_9 m88 (by decide) rfl rfl ?_
    refine wLi 13 i88_11 rfl rfl ?_
    refine wZF 19 16 i88_13 rfl (by decide) rfl ?_
    refine wLi 18 i88_16 rfl rfl ?_
    refine wRi i88_18 m88 rfl ?_
    refine ⟨congrArg (fun z => some (Value.int z)) ?_, xpre_of _ _ rfl, rfl⟩
    rw [sp_find, if_pos c1]
  ·
    refine wZF 14 4 i98_1 rfl (decide_eq_false c1) rfl ?_
    refine wLin 5 i98_4 rfl rfl ?_
    refine wKb 7 8 i98_5 (by decide) rfl ?_
    by_cases c2 : 8 ≤ (a1)
    ·
      refine wCT 14 i98_7 rfl (decide_eq_true c2) ?_
      refine wK 15 0 i98_14 (by decide) rfl ?_
      refine jRi i98_15 m98 (by decide) ?_
      refine wZT 16 i109_4 rfl (by decide) ?_
      refine wKb 18 (-2) i109_16 (by decide) rfl ?_
      refine jRi i109_18 m109 rfl ?_
      refine wSi 11 [(5, .int (-2)), (0, .ref 0), (1, .int (a1)), (2, .long (a2)), (4, .int (a3))] i88_9 m88 (by decide) rfl rfl ?_
      refine wLi 13 i88_11 rfl rfl ?_
      refine wZF 19 16 i88_13 rfl (by decide) rfl ?_
      refine wLi 18 i88_16 rfl rfl ?_
      refine wRi i88_18 m88 rfl ?_
      refine ⟨congrArg (fun z => some (Value.int z)) ?_, xpre_of _ _ rfl, rfl⟩
      rw [sp_find, if_neg c1, if_pos c2]
    ·
      refine wCF 14 10 i98_7 rfl (decide_eq_false c2) rfl ?_
      refine wK 11 1 i98_10 (by decide) rfl ?_
      refine wGo 15 i98_11 rfl ?_
      refine jRi i98_15 m98 (by decide) ?_
      refine wZF 16 7 i109_4 rfl (by decide) rfl ?_
      refine wLin 8 i109_7 rfl rfl ?_
      by_cases c3 : (a3) < 0
      ·
        refine wZT 16 i109_8 rfl (decide_eq_true c3) ?_
        refine wKb 18 (-2) i109_16 (by decide) rfl ?_
        refine jRi i109_18 m109 rfl ?_
        refine wSi 11 [(5, .int (-2)), (0, .ref 0), (1, .int (a1)), (2, .long (a2)), (4, .int (a3))] i88_9 m88 (by decide) rfl rfl ?_
        refine wLi 13 i88_11 rfl rfl ?_
        refine wZF 19 16 i88_13 rfl (by decide) rfl ?_
        refine wLi 18 i88_16 rfl rfl ?_
        refine wRi i88_18 m88 rfl ?_
        refine ⟨congrArg (fun z => some (Value.int z)) ?_, xpre_of _ _ rfl, rfl⟩
        rw [sp_find, if_neg c1, if_neg c2, if_pos c3]
      ·
        refine wZF 16 11 i109_8 rfl (decide_eq_false c3) rfl ?_
        refine wLin 12 i109_11 rfl rfl ?_
        refine wLin 13 i109_12 rfl rfl ?_
        by_cases c4 : (a3) ≤ 64
        ·
          refine wCT 19 i109_13 rfl (decide_eq_true c4) ?_
          refine wLan 20 i109_19 rfl rfl ?_
          refine wLin 21 i109_20 rfl rfl ?_
          refine jCall 24 [.ref 0, .int (a1)] [] [(0, .ref 0), (1, .int (a1))] i109_21 rfl (xlk0 l109_108) (Or.inl rfl) m95 rfl rfl (Nat.le_of_ble_eq_true rfl) (Nat.le_of_ble_eq_true rfl) (Nat.le_of_ble_eq_true rfl) rfl rfl rfl ?_
          refine wLan 1 i95_0 rfl rfl ?_
          refine wGet 4 (.ref 17) i95_1 f95_28 rfl rfl rfl ?_
          refine wGet 7 (.ref 18) i95_4 f95_104 rfl rfl rfl ?_
          refine wLin 8 i95_7 rfl rfl ?_
          refine wIal 9 i95_8 rfl (x_ib (Int32.not_lt.mp c1) (x_lt1 (z := 7) (Int32.not_le.mp c2) (by decide)) (by decide) (by decide)) rfl ?_
          refine tTop (v := 0) rfl ?_
          refine wZF 16 12 i95_9 rfl (by decide) rfl ?_
          refine wK 13 1 i95_12 (by decide) rfl ?_
          refine wGo 17 i95_13 rfl ?_
          refine jRi i95_17 m95 (by decide) ?_
          refine wZF 32 27 i109_24 rfl (by decide) rfl ?_
          refine wKb 29 (-3) i109_27 (by decide) rfl ?_
          refine wGo 33 i109_29 rfl ?_
          refine jRi i109_33 m109 rfl ?_
          refine wSi 11 [(5, .int (-3)), (0, .ref 0), (1, .int (a1)), (2, .long (a2)), (4, .int (a3))] i88_9 m88 (by decide) rfl rfl ?_
          refine wLi 13 i88_11 rfl rfl ?_
          refine wZF 19 16 i88_13 rfl (by decide) rfl ?_
          refine wLi 18 i88_16 rfl rfl ?_
          refine wRi i88_18 m88 rfl ?_
          refine ⟨congrArg (fun z => some (Value.int z)) ?_, xpre_of _ _ rfl, rfl⟩
          rw [sp_find, if_neg c1, if_neg c2, if_neg c3, if_pos c4]
        ·
          refine wCF 19 16 i109_13 rfl (decide_eq_false c4) rfl ?_
          refine wKb 18 (-2) i109_16 (by decide) rfl ?_
          refine jRi i109_18 m109 rfl ?_
          refine wSi 11 [(5, .int (-2)), (0, .ref 0), (1, .int (a1)), (2, .long (a2)), (4, .int (a3))] i88_9 m88 (by decide) rfl rfl ?_
          refine wLi 13 i88_11 rfl rfl ?_
          refine wZF 19 16 i88_13 rfl (by decide) rfl ?_
          refine wLi 18 i88_16 rfl rfl ?_
          refine wRi i88_18 m88 rfl ?_
          refine ⟨congrArg (fun z => some (Value.int z)) ?_, xpre_of _ _ rfl, rfl⟩
          rw [sp_find, if_neg c1, if_neg c2, if_neg c3, if_neg c4]
def sp_differ (a1 : Int32) (a2 : Int32) (a3 : Int32) : Int32 := (if (a1) < 0 then (-2) else (if 8 ≤ (a1) then (-2) else (if (a2) < 0 then (-2) else (if 8 ≤ (a2) then (-2) else (if (a3) < 0 then (-2) else (if (a3) ≤ 64 then (-3) else (-2)))))))
set_option maxHeartbeats 4000000 in
set_option maxRecDepth 100000 in
theorem q_differ {sc : xS} {d : Nat} (t : xH) (a1 : Int32) (a2 : Int32) (a3 : Int32) : xT xg sc (d + 12) 83 0 [(0, .ref 0), (1, .int (a1)), (2, .int (a2)), (3, .int (a3))] [] (hC t) (fun r => r.1 = some (.int (sp_differ a1 a2 a3)) ∧ (∃ f, r.2.1 = xpre f t) ∧ r.2.2 = (0, 0)) := by
  refine wLin 1 i83_0 rfl rfl ?_
  refine jCall 4 [.int (a1)] [] [(0, .int (a1))] i83_1 rfl (xlk1 l83_86) (Or.inr (Or.inl rfl)) m98 rfl rfl (Nat.le_of_ble_eq_true rfl) (Nat.le_of_ble_eq_true rfl) (Nat.le_of_ble_eq_true rfl) rfl rfl rfl ?_
  refine wLin 1 i98_0 rfl rfl ?_
  by_cases c1 : (a1) < 0
  ·
    refine wZT 14 i98_1 rfl (decide_eq_true c1) ?_
    refine wK 15 0 i98_14 (by decide) rfl ?_
    refine jRi i98_15 m98 (by decide) ?_
    refine wZT 24 i83_4 rfl (by decide) ?_
    refine wKb 26 (-2) i83_24 (by decide) rfl ?_
    refine wRi i83_26 m83 rfl ?_
    refine ⟨congrArg (fun z => some (Value.int z)) ?_, xpre_of _ _ rfl, rfl⟩
    rw [sp_differ, if_pos c1]
  ·
    refine wZF 14 4 i98_1 rfl (decide_eq_false c1) rfl ?_
    refine wLin 5 i98_4 rfl rfl ?_
    refine wKb 7 8 i98_5 (by decide) rfl ?_
    by_cases c2 : 8 ≤ (a1)
    ·
      refine wCT 14 i98_7 rfl (decide_eq_true c2) ?_
      refine wK 15 0 i98_14 (by decide) rfl ?_
      refine jRi i98_15 m98 (by decide) ?_
      refine wZT 24 i83_4 rfl (by decide) ?_
      refine wKb 26 (-2) i83_24 (by decide) rfl ?_
      refine wRi i83_26 m83 rfl ?_
      refine ⟨congrArg (fun z => some (Value.int z)) ?_, xpre_of _ _ rfl, rfl⟩
      rw [sp_differ, if_neg c1, if_pos c2]
    ·
      refine wCF 14 10 i98_7 rfl (decide_eq_false c2) rfl ?_
      refine wK 11 1 i98_10 (by decide) rfl ?_
      refine wGo 15 i98_11 rfl ?_
      refine jRi i98_15 m98 (by decide) ?_
      refine wZF 24 7 i83_4 rfl (by decide) rfl ?_
      refine wLin 8 i83_7 rfl rfl ?_
      refine jCall 11 [.int (a2)] [] [(0, .int (a2))] i83_8 rfl (xlk1 l83_86) (Or.inr (Or.inl rfl)) m98 rfl rfl (Nat.le_of_ble_eq_true rfl) (Nat.le_of_ble_eq_true rfl) (Nat.le_of_ble_eq_true rfl) rfl rfl rfl ?_
      refine wLin 1 i98_0 rfl rfl ?_
      by_cases c3 : (a2) < 0
      ·
        refine wZT 14 i98_1 rfl (decide_eq_true c3) ?_
        refine wK 15 0 i98_14 (by decide) rfl ?_
        refine jRi i98_15 m98 (by decide) ?_
        refine wZT 24 i83_11 rfl (by decide) ?_
        refine wKb 26 (-2) i83_24 (by decide) rfl ?_
        refine wRi i83_26 m83 rfl ?_
        refine ⟨congrArg (fun z => some (Value.int z)) ?_, xpre_of _ _ rfl, rfl⟩
        rw [sp_differ, if_neg c1, if_neg c2, if_pos c3]
      ·
        refine wZF 14 4 i98_1 rfl (decide_eq_false c3) rfl ?_
        refine wLin 5 i98_4 rfl rfl ?_
        refine wKb 7 8 i98_5 (by decide) rfl ?_
        by_cases c4 : 8 ≤ (a2)
        ·
          refine wCT 14 i98_7 rfl (decide_eq_true c4) ?_
          refine wK 15 0 i98_14 (by decide) rfl ?_
          refine jRi i98_15 m98 (by decide) ?_
          refine wZT 24 i83_11 rfl (by decide) ?_
          refine wKb 26 (-2) i83_24 (by decide) rfl ?_
          refine wRi i83_26 m83 rfl ?_
          refine ⟨congrArg (fun z => some (Value.int z)) ?_, xpre_of _ _ rfl, rfl⟩
          rw [sp_differ, if_neg c1, if_neg c2, if_neg c3, if_pos c4]
        ·
          refine wCF 14 10 i98_7 rfl (decide_eq_false c4) rfl ?_
          refine wK 11 1 i98_10 (by decide) rfl ?_
          refine wGo 15 i98_11 rfl ?_
          refine jRi i98_15 m98 (by decide) ?_
          refine wZF 24 14 i83_11 rfl (by decide) rfl ?_
          refine wLin 15 i83_14 rfl rfl ?_
          by_cases c5 : (a3) < 0
          ·
            refine wZT 24 i83_15 rfl (decide_eq_true c5) ?_
            refine wKb 26 (-2) i83_24 (by decide) rfl ?_
            refine wRi i83_26 m83 rfl ?_
            refine ⟨congrArg (fun z => some (Value.int z)) ?_, xpre_of _ _ rfl, rfl⟩
            rw [sp_differ, if_neg c1, if_neg c2, if_neg c3, if_neg c4, if_pos c5]
          ·
            refine wZF 24 18 i83_15 rfl (decide_eq_false c5) rfl ?_
            refine wLin 19 i83_18 rfl rfl ?_
            refine wKb 21 64 i83_19 (by decide) rfl ?_
            by_cases c6 : (a3) ≤ 64
            ·
              refine wCT 27 i83_21 rfl (decide_eq_true c6) ?_
              refine wLan 28 i83_27 rfl rfl ?_
              refine wLin 29 i83_28 rfl rfl ?_
              refine jCall 32 [.ref 0, .int (a1)] [] [(0, .ref 0), (1, .int (a1))] i83_29 rfl (xlk0 l83_108) (Or.inl rfl) m95 rfl rfl (Nat.le_of_ble_eq_true rfl) (Nat.le_of_ble_eq_true rfl) (Nat.le_of_ble_eq_true rfl) rfl rfl rfl ?_
              refine wLan 1 i95_0 rfl rfl ?_
              refine wGet 4 (.ref 17) i95_1 f95_28 rfl rfl rfl ?_
              refine wGet 7 (.ref 18) i95_4 f95_104 rfl rfl rfl ?_
              refine wLin 8 i95_7 rfl rfl ?_
              refine wIal 9 i95_8 rfl (x_ib (Int32.not_lt.mp c1) (x_lt1 (z := 7) (Int32.not_le.mp c2) (by decide)) (by decide) (by decide)) rfl ?_
              refine tTop (v := 0) rfl ?_
              refine wZF 16 12 i95_9 rfl (by decide) rfl ?_
              refine wK 13 1 i95_12 (by decide) rfl ?_
              refine wGo 17 i95_13 rfl ?_
              refine jRi i95_17 m95 (by decide) ?_
              refine wZT 43 i83_32 rfl (by decide) ?_
              refine wKb 45 (-3) i83_43 (by decide) rfl ?_
              refine wRi i83_45 m83 rfl ?_
              refine ⟨congrArg (fun z => some (Value.int z)) ?_, xpre_of _ _ rfl, rfl⟩
              rw [sp_differ, if_neg c1, if_neg c2, if_neg c3, if_neg c4, if_neg c5, if_pos c6]
            ·
              refine wCF 27 24 i83_21 rfl (decide_eq_false c6) rfl ?_
              refine wKb 26 (-2) i83_24 (by decide) rfl ?_
              refine wRi i83_26 m83 rfl ?_
              refine ⟨congrArg (fun z => some (Value.int z)) ?_, xpre_of _ _ rfl, rfl⟩
              rw [sp_differ, if_neg c1, if_neg c2, if_neg c3, if_neg c4, if_neg c5, if_neg c6]
def sp_rises (a1 : Int32) : Int32 := (if (a1) < 0 then (-2) else (if 8 ≤ (a1) then (-2) else (-3)))
set_option maxHeartbeats 4000000 in
set_option maxRecDepth 100000 in
theorem q_rises {sc : xS} {d : Nat} (t : xH) (a1 : Int32) : xT xg sc (d + 12) 110 0 [(0, .ref 0), (1, .int (a1))] [] (hC t) (fun r => r.1 = some (.int (sp_rises a1)) ∧ (∃ f, r.2.1 = xpre f t) ∧ r.2.2 = (0, 0)) := by
  refine wLan 1 i110_0 rfl rfl ?_
  refine wLin 2 i110_1 rfl rfl ?_
  refine wK 3 0 i110_2 (by decide) rfl ?_
  refine wKb 5 64 i110_3 (by decide) rfl ?_
  refine jCall 8 [.ref 0, .int (a1), .int 0, .int 64] [] [(0, .ref 0), (1, .int (a1)), (2, .int 0), (3, .int 64)] i110_5 rfl (xlk0 l110_196) (Or.inl rfl) m109 rfl rfl (Nat.le_of_ble_eq_true rfl) (Nat.le_of_ble_eq_true rfl) (Nat.le_of_ble_eq_true rfl) rfl rfl rfl ?_
  refine wLin 1 i109_0 rfl rfl ?_
  refine jCall 4 [.int (a1)] [] [(0, .int (a1))] i109_1 rfl (xlk1 l109_86) (Or.inr (Or.inl rfl)) m98 rfl rfl (Nat.le_of_ble_eq_true rfl) (Nat.le_of_ble_eq_true rfl) (Nat.le_of_ble_eq_true rfl) rfl rfl rfl ?_
  refine wLin 1 i98_0 rfl rfl ?_
  by_cases c1 : (a1) < 0
  ·
    refine wZT 14 i98_1 rfl (decide_eq_true c1) ?_
    refine wK 15 0 i98_14 (by decide) rfl ?_
    refine jRi i98_15 m98 (by decide) ?_
    refine wZT 16 i109_4 rfl (by decide) ?_
    refine wKb 18 (-2) i109_16 (by decide) rfl ?_
    refine jRi i109_18 m109 rfl ?_
    refine wSin 9 [(2, .int (-2)), (0, .ref 0), (1, .int (a1))] i110_8 m110 (by decide) rfl rfl ?_
    refine wLin 10 i110_9 rfl rfl ?_
    refine wZF 15 13 i110_10 rfl (by decide) rfl ?_
    refine wLin 14 i110_13 rfl rfl ?_
    refine wRi i110_14 m110 rfl ?_
    refine ⟨congrArg (fun z => some (Value.int z)) ?_, xpre_of _ _ rfl, rfl⟩
    rw [sp_rises, if_pos c1]
  ·
    refine wZF 14 4 i98_1 rfl (decide_eq_false c1) rfl ?_
    refine wLin 5 i98_4 rfl rfl ?_
    refine wKb 7 8 i98_5 (by decide) rfl ?_
    by_cases c2 : 8 ≤ (a1)
    ·
      refine wCT 14 i98_7 rfl (decide_eq_true c2) ?_
      refine wK 15 0 i98_14 (by decide) rfl ?_
      refine jRi i98_15 m98 (by decide) ?_
      refine wZT 16 i109_4 rfl (by decide) ?_
      refine wKb 18 (-2) i109_16 (by decide) rfl ?_
      refine jRi i109_18 m109 rfl ?_
      refine wSin 9 [(2, .int (-2)), (0, .ref 0), (1, .int (a1))] i110_8 m110 (by decide) rfl rfl ?_
      refine wLin 10 i110_9 rfl rfl ?_
      refine wZF 15 13 i110_10 rfl (by decide) rfl ?_
      refine wLin 14 i110_13 rfl rfl ?_
      refine wRi i110_14 m110 rfl ?_
      refine ⟨congrArg (fun z => some (Value.int z)) ?_, xpre_of _ _ rfl, rfl⟩
      rw [sp_rises, if_neg c1, if_pos c2]
    ·
      refine wCF 14 10 i98_7 rfl (decide_eq_false c2) rfl ?_
      refine wK 11 1 i98_10 (by decide) rfl ?_
      refine wGo 15 i98_11 rfl ?_
      refine jRi i98_15 m98 (by decide) ?_
      refine wZF 16 7 i109_4 rfl (by decide) rfl ?_
      refine wLin 8 i109_7 rfl rfl ?_
      refine wZF 16 11 i109_8 rfl (by decide) rfl ?_
      refine wLin 12 i109_11 rfl rfl ?_
      refine wLin 13 i109_12 rfl rfl ?_
      refine wCT 19 i109_13 rfl (by decide) ?_
      refine wLan 20 i109_19 rfl rfl ?_
      refine wLin 21 i109_20 rfl rfl ?_
      refine jCall 24 [.ref 0, .int (a1)] [] [(0, .ref 0), (1, .int (a1))] i109_21 rfl (xlk0 l109_108) (Or.inl rfl) m95 rfl rfl (Nat.le_of_ble_eq_true rfl) (Nat.le_of_ble_eq_true rfl) (Nat.le_of_ble_eq_true rfl) rfl rfl rfl ?_
      refine wLan 1 i95_0 rfl rfl ?_
      refine wGet 4 (.ref 17) i95_1 f95_28 rfl rfl rfl ?_
      refine wGet 7 (.ref 18) i95_4 f95_104 rfl rfl rfl ?_
      refine wLin 8 i95_7 rfl rfl ?_
      refine wIal 9 i95_8 rfl (x_ib (Int32.not_lt.mp c1) (x_lt1 (z := 7) (Int32.not_le.mp c2) (by decide)) (by decide) (by decide)) rfl ?_
      refine tTop (v := 0) rfl ?_
      refine wZF 16 12 i95_9 rfl (by decide) rfl ?_
      refine wK 13 1 i95_12 (by decide) rfl ?_
      refine wGo 17 i95_13 rfl ?_
      refine jRi i95_17 m95 (by decide) ?_
      refine wZF 32 27 i109_24 rfl (by decide) rfl ?_
      refine wKb 29 (-3) i109_27 (by decide) rfl ?_
      refine wGo 33 i109_29 rfl ?_
      refine jRi i109_33 m109 rfl ?_
      refine wSin 9 [(2, .int (-3)), (0, .ref 0), (1, .int (a1))] i110_8 m110 (by decide) rfl rfl ?_
      refine wLin 10 i110_9 rfl rfl ?_
      refine wZF 15 13 i110_10 rfl (by decide) rfl ?_
      refine wLin 14 i110_13 rfl rfl ?_
      refine wRi i110_14 m110 rfl ?_
      refine ⟨congrArg (fun z => some (Value.int z)) ?_, xpre_of _ _ rfl, rfl⟩
      rw [sp_rises, if_neg c1, if_neg c2]
