theorem i191_0 : xIns xg 191 0 = some (.iload_n 1) := by decide +kernel
theorem i191_1 : xIns xg 191 1 = some (.invokestatic 266) := by decide +kernel
theorem l191_266 : xMth xg 191 266 = some (1, 153, 1, 0) := by decide +kernel
theorem i191_4 : xIns xg 191 4 = some (.ifCond .eq 15) := by decide +kernel
theorem i191_19 : xIns xg 191 19 = some (.bipush (-2)) := by decide +kernel
theorem i191_21 : xIns xg 191 21 = some (.ireturn) := by decide +kernel
theorem m191 : (xMet xg 191).2.2 = (4, (some .int)) := by decide +kernel
theorem i191_7 : xIns xg 191 7 = some (.iload_n 2) := by decide +kernel
theorem i191_8 : xIns xg 191 8 = some (.i2l) := by decide +kernel
theorem i191_9 : xIns xg 191 9 = some (.lconst 0) := by decide +kernel
theorem i191_10 : xIns xg 191 10 = some (.ldc2_w 373) := by decide +kernel
theorem c191_373 : xCon xg 191 373 = some (.long (63)) := by decide +kernel
theorem i191_13 : xIns xg 191 13 = some (.invokestatic 177) := by decide +kernel
theorem l191_177 : xMth xg 191 177 = some (1, 142, 3, 0) := by decide +kernel
theorem i191_16 : xIns xg 191 16 = some (.ifCond .ne 6) := by decide +kernel
theorem i191_22 : xIns xg 191 22 = some (.aload_n 0) := by decide +kernel
theorem i191_23 : xIns xg 191 23 = some (.getfield 13) := by decide +kernel
theorem f191_13 : xFld xg 191 13 = some (7, 1) := by decide +kernel
theorem i191_26 : xIns xg 191 26 = some (.iload_n 1) := by decide +kernel
theorem i191_27 : xIns xg 191 27 = some (.iaload) := by decide +kernel
theorem i191_28 : xIns xg 191 28 = some (.ifCond .ne 6) := by decide +kernel
theorem i191_31 : xIns xg 191 31 = some (.bipush (-3)) := by decide +kernel
theorem i191_33 : xIns xg 191 33 = some (.ireturn) := by decide +kernel
theorem i144_0 : xIns xg 144 0 = some (.iload_n 1) := by decide +kernel
theorem i144_1 : xIns xg 144 1 = some (.invokestatic 266) := by decide +kernel
theorem l144_266 : xMth xg 144 266 = some (1, 153, 1, 0) := by decide +kernel
theorem i144_4 : xIns xg 144 4 = some (.ifCond .eq 15) := by decide +kernel
theorem i144_19 : xIns xg 144 19 = some (.bipush (-2)) := by decide +kernel
theorem i144_21 : xIns xg 144 21 = some (.ireturn) := by decide +kernel
theorem m144 : (xMet xg 144).2.2 = (4, (some .int)) := by decide +kernel
theorem i144_7 : xIns xg 144 7 = some (.iload_n 2) := by decide +kernel
theorem i144_8 : xIns xg 144 8 = some (.i2l) := by decide +kernel
theorem i144_9 : xIns xg 144 9 = some (.lconst 0) := by decide +kernel
theorem i144_10 : xIns xg 144 10 = some (.ldc2_w 373) := by decide +kernel
theorem c144_373 : xCon xg 144 373 = some (.long (63)) := by decide +kernel
theorem i144_13 : xIns xg 144 13 = some (.invokestatic 177) := by decide +kernel
theorem l144_177 : xMth xg 144 177 = some (1, 142, 3, 0) := by decide +kernel
theorem i144_16 : xIns xg 144 16 = some (.ifCond .ne 6) := by decide +kernel
theorem i144_22 : xIns xg 144 22 = some (.aload_n 0) := by decide +kernel
theorem i144_23 : xIns xg 144 23 = some (.getfield 13) := by decide +kernel
theorem f144_13 : xFld xg 144 13 = some (7, 1) := by decide +kernel
theorem i144_26 : xIns xg 144 26 = some (.iload_n 1) := by decide +kernel
theorem i144_27 : xIns xg 144 27 = some (.iaload) := by decide +kernel
theorem i144_28 : xIns xg 144 28 = some (.ifCond .ne 6) := by decide +kernel
theorem i144_31 : xIns xg 144 31 = some (.bipush (-3)) := by decide +kernel
theorem i144_33 : xIns xg 144 33 = some (.ireturn) := by decide +kernel
theorem i139_0 : xIns xg 139 0 = some (.aload_n 0) := by decide +kernel
theorem i139_1 : xIns xg 139 1 = some (.iload_n 1) := by decide +kernel
theorem i139_2 : xIns xg 139 2 = some (.iload_n 2) := by decide +kernel
theorem i139_3 : xIns xg 139 3 = some (.invokevirtual 384) := by decide +kernel
theorem l139_384 : xMth xg 139 384 = some (0, 144, 3, 7) := by decide +kernel
theorem i139_6 : xIns xg 139 6 = some (.iconst 1) := by decide +kernel
theorem i139_7 : xIns xg 139 7 = some (.if_icmp .ne 10) := by decide +kernel
theorem i139_17 : xIns xg 139 17 = some (.ldc2_w 285) := by decide +kernel
theorem c139_285 : xCon xg 139 285 = some (.long (-4611686018427387904)) := by decide +kernel
theorem i139_20 : xIns xg 139 20 = some (.lreturn) := by decide +kernel
theorem m139 : (xMet xg 139).2.2 = (3, (some .long)) := by decide +kernel
theorem i166_0 : xIns xg 166 0 = some (.iload_n 1) := by decide +kernel
theorem i166_1 : xIns xg 166 1 = some (.invokestatic 266) := by decide +kernel
theorem l166_266 : xMth xg 166 266 = some (1, 153, 1, 0) := by decide +kernel
theorem i166_4 : xIns xg 166 4 = some (.ifCond .eq 15) := by decide +kernel
theorem i166_19 : xIns xg 166 19 = some (.bipush (-2)) := by decide +kernel
theorem i166_21 : xIns xg 166 21 = some (.ireturn) := by decide +kernel
theorem m166 : (xMet xg 166).2.2 = (4, (some .int)) := by decide +kernel
theorem i166_7 : xIns xg 166 7 = some (.iload_n 2) := by decide +kernel
theorem i166_8 : xIns xg 166 8 = some (.i2l) := by decide +kernel
theorem i166_9 : xIns xg 166 9 = some (.lconst 0) := by decide +kernel
theorem i166_10 : xIns xg 166 10 = some (.ldc2_w 373) := by decide +kernel
theorem c166_373 : xCon xg 166 373 = some (.long (63)) := by decide +kernel
theorem i166_13 : xIns xg 166 13 = some (.invokestatic 177) := by decide +kernel
theorem l166_177 : xMth xg 166 177 = some (1, 142, 3, 0) := by decide +kernel
theorem i166_16 : xIns xg 166 16 = some (.ifCond .ne 6) := by decide +kernel
theorem i166_22 : xIns xg 166 22 = some (.aload_n 0) := by decide +kernel
theorem i166_23 : xIns xg 166 23 = some (.getfield 13) := by decide +kernel
theorem f166_13 : xFld xg 166 13 = some (7, 1) := by decide +kernel
theorem i166_26 : xIns xg 166 26 = some (.iload_n 1) := by decide +kernel
theorem i166_27 : xIns xg 166 27 = some (.iaload) := by decide +kernel
theorem i166_28 : xIns xg 166 28 = some (.ifCond .ne 6) := by decide +kernel
theorem i166_31 : xIns xg 166 31 = some (.bipush (-3)) := by decide +kernel
theorem i166_33 : xIns xg 166 33 = some (.ireturn) := by decide +kernel
theorem i163_0 : xIns xg 163 0 = some (.iload_n 1) := by decide +kernel
theorem i163_1 : xIns xg 163 1 = some (.i2l) := by decide +kernel
theorem i163_2 : xIns xg 163 2 = some (.lconst 0) := by decide +kernel
theorem i163_3 : xIns xg 163 3 = some (.ldc2_w 387) := by decide +kernel
theorem c163_387 : xCon xg 163 387 = some (.long (99)) := by decide +kernel
theorem i163_6 : xIns xg 163 6 = some (.invokestatic 177) := by decide +kernel
theorem l163_177 : xMth xg 163 177 = some (1, 142, 3, 0) := by decide +kernel
theorem i163_9 : xIns xg 163 9 = some (.ifCond .ne 6) := by decide +kernel
theorem i163_12 : xIns xg 163 12 = some (.bipush (-2)) := by decide +kernel
theorem i163_14 : xIns xg 163 14 = some (.ireturn) := by decide +kernel
theorem m163 : (xMet xg 163).2.2 = (3, (some .int)) := by decide +kernel
theorem i163_15 : xIns xg 163 15 = some (.aload_n 0) := by decide +kernel
theorem i163_16 : xIns xg 163 16 = some (.getfield 39) := by decide +kernel
theorem f163_39 : xFld xg 163 39 = some (7, 9) := by decide +kernel
theorem i163_19 : xIns xg 163 19 = some (.istore_n 2) := by decide +kernel
theorem i163_20 : xIns xg 163 20 = some (.aload_n 0) := by decide +kernel
theorem i163_21 : xIns xg 163 21 = some (.iload_n 1) := by decide +kernel
theorem i163_22 : xIns xg 163 22 = some (.putfield 39) := by decide +kernel
theorem p163_39 : xPut xg 163 39 = some (7, 9, .int) := by decide +kernel
theorem i163_25 : xIns xg 163 25 = some (.iload_n 2) := by decide +kernel
theorem i163_26 : xIns xg 163 26 = some (.ireturn) := by decide +kernel
theorem i135_0 : xIns xg 135 0 = some (.aload_n 0) := by decide +kernel
theorem i135_1 : xIns xg 135 1 = some (.iconst 0) := by decide +kernel
theorem i135_2 : xIns xg 135 2 = some (.invokevirtual 389) := by decide +kernel
theorem l135_389 : xMth xg 135 389 = some (0, 192, 2, 7) := by decide +kernel
theorem m192 : (xMet xg 192).2.2 = (5, (some .int)) := by decide +kernel
theorem i192_0 : xIns xg 192 0 = some (.iconst 0) := by decide +kernel
theorem i192_1 : xIns xg 192 1 = some (.istore_n 2) := by decide +kernel
theorem i192_2 : xIns xg 192 2 = some (.iconst 0) := by decide +kernel
theorem i192_3 : xIns xg 192 3 = some (.istore_n 3) := by decide +kernel
theorem i192_4 : xIns xg 192 4 = some (.iload_n 3) := by decide +kernel
theorem i192_5 : xIns xg 192 5 = some (.bipush 8) := by decide +kernel
theorem i192_7 : xIns xg 192 7 = some (.if_icmp .ge 62) := by decide +kernel
theorem i192_10 : xIns xg 192 10 = some (.iconst 0) := by decide +kernel
theorem i192_11 : xIns xg 192 11 = some (.istore 4) := by decide +kernel
theorem i192_13 : xIns xg 192 13 = some (.iload 4) := by decide +kernel
theorem i192_15 : xIns xg 192 15 = some (.aload_n 0) := by decide +kernel
theorem i192_16 : xIns xg 192 16 = some (.getfield 13) := by decide +kernel
theorem f192_13 : xFld xg 192 13 = some (7, 1) := by decide +kernel
theorem i192_19 : xIns xg 192 19 = some (.iload_n 3) := by decide +kernel
theorem i192_20 : xIns xg 192 20 = some (.iaload) := by decide +kernel
theorem i192_21 : xIns xg 192 21 = some (.if_icmp .ge 42) := by decide +kernel
theorem i192_63 : xIns xg 192 63 = some (.iinc 3 1) := by decide +kernel
theorem i192_66 : xIns xg 192 66 = some (.goto (-62)) := by decide +kernel
theorem i192_69 : xIns xg 192 69 = some (.iload_n 2) := by decide +kernel
theorem i192_70 : xIns xg 192 70 = some (.ireturn) := by decide +kernel
theorem i135_5 : xIns xg 135 5 = some (.aload_n 0) := by decide +kernel
theorem i135_6 : xIns xg 135 6 = some (.iconst 1) := by decide +kernel
theorem i135_7 : xIns xg 135 7 = some (.invokevirtual 389) := by decide +kernel
theorem i135_10 : xIns xg 135 10 = some (.iadd) := by decide +kernel
theorem i135_11 : xIns xg 135 11 = some (.istore_n 1) := by decide +kernel
theorem m135 : (xMet xg 135).2.2 = (2, (some .int)) := by decide +kernel
theorem i135_12 : xIns xg 135 12 = some (.aload_n 0) := by decide +kernel
theorem i135_13 : xIns xg 135 13 = some (.invokevirtual 269) := by decide +kernel
theorem l135_269 : xMth xg 135 269 = some (0, 195, 1, 7) := by decide +kernel
theorem i135_16 : xIns xg 135 16 = some (.iload_n 1) := by decide +kernel
theorem i135_17 : xIns xg 135 17 = some (.ireturn) := by decide +kernel
theorem i185_0 : xIns xg 185 0 = some (.aload_n 0) := by decide +kernel
theorem i185_1 : xIns xg 185 1 = some (.iload_n 1) := by decide +kernel
theorem i185_2 : xIns xg 185 2 = some (.invokevirtual 392) := by decide +kernel
theorem l185_392 : xMth xg 185 392 = some (0, 145, 2, 7) := by decide +kernel
theorem m145 : (xMet xg 145).2.2 = (2, (some .boolean)) := by decide +kernel
theorem i145_0 : xIns xg 145 0 = some (.iload_n 1) := by decide +kernel
theorem i145_1 : xIns xg 145 1 = some (.invokestatic 266) := by decide +kernel
theorem l145_266 : xMth xg 145 266 = some (1, 153, 1, 0) := by decide +kernel
theorem i145_4 : xIns xg 145 4 = some (.ifCond .eq 16) := by decide +kernel
theorem i145_20 : xIns xg 145 20 = some (.iconst 0) := by decide +kernel
theorem i145_21 : xIns xg 145 21 = some (.ireturn) := by decide +kernel
theorem i185_5 : xIns xg 185 5 = some (.ifCond .eq 15) := by decide +kernel
theorem i185_20 : xIns xg 185 20 = some (.ldc2_w 285) := by decide +kernel
theorem c185_285 : xCon xg 185 285 = some (.long (-4611686018427387904)) := by decide +kernel
theorem i185_23 : xIns xg 185 23 = some (.lreturn) := by decide +kernel
theorem m185 : (xMet xg 185).2.2 = (7, (some .long)) := by decide +kernel
theorem i145_7 : xIns xg 145 7 = some (.aload_n 0) := by decide +kernel
theorem i145_8 : xIns xg 145 8 = some (.getfield 13) := by decide +kernel
theorem f145_13 : xFld xg 145 13 = some (7, 1) := by decide +kernel
theorem i145_11 : xIns xg 145 11 = some (.iload_n 1) := by decide +kernel
theorem i145_12 : xIns xg 145 12 = some (.iaload) := by decide +kernel
theorem i145_13 : xIns xg 145 13 = some (.ifCond .le 7) := by decide +kernel
theorem i133_0 : xIns xg 133 0 = some (.iload_n 1) := by decide +kernel
theorem i133_1 : xIns xg 133 1 = some (.invokestatic 266) := by decide +kernel
theorem l133_266 : xMth xg 133 266 = some (1, 153, 1, 0) := by decide +kernel
theorem i133_4 : xIns xg 133 4 = some (.ifCond .eq 16) := by decide +kernel
theorem i133_20 : xIns xg 133 20 = some (.bipush (-2)) := by decide +kernel
theorem i133_22 : xIns xg 133 22 = some (.ireturn) := by decide +kernel
theorem m133 : (xMet xg 133).2.2 = (8, (some .int)) := by decide +kernel
theorem i133_7 : xIns xg 133 7 = some (.iload 4) := by decide +kernel
theorem i133_9 : xIns xg 133 9 = some (.i2l) := by decide +kernel
theorem i133_10 : xIns xg 133 10 = some (.lconst 0) := by decide +kernel
theorem i133_11 : xIns xg 133 11 = some (.ldc2_w 395) := by decide +kernel
theorem c133_395 : xCon xg 133 395 = some (.long (64)) := by decide +kernel
theorem i133_14 : xIns xg 133 14 = some (.invokestatic 177) := by decide +kernel
theorem l133_177 : xMth xg 133 177 = some (1, 142, 3, 0) := by decide +kernel
theorem i133_17 : xIns xg 133 17 = some (.ifCond .ne 6) := by decide +kernel
theorem i133_23 : xIns xg 133 23 = some (.aload_n 0) := by decide +kernel
theorem i133_24 : xIns xg 133 24 = some (.getfield 13) := by decide +kernel
theorem f133_13 : xFld xg 133 13 = some (7, 1) := by decide +kernel
theorem i133_27 : xIns xg 133 27 = some (.iload_n 1) := by decide +kernel
theorem i133_28 : xIns xg 133 28 = some (.iaload) := by decide +kernel
theorem i133_29 : xIns xg 133 29 = some (.ifCond .ne 6) := by decide +kernel
theorem i133_32 : xIns xg 133 32 = some (.bipush (-3)) := by decide +kernel
theorem i133_34 : xIns xg 133 34 = some (.ireturn) := by decide +kernel
theorem i126_0 : xIns xg 126 0 = some (.iload_n 1) := by decide +kernel
theorem i126_1 : xIns xg 126 1 = some (.invokestatic 266) := by decide +kernel
theorem l126_266 : xMth xg 126 266 = some (1, 153, 1, 0) := by decide +kernel
theorem i126_4 : xIns xg 126 4 = some (.ifCond .eq 22) := by decide +kernel
theorem i126_26 : xIns xg 126 26 = some (.bipush (-2)) := by decide +kernel
theorem i126_28 : xIns xg 126 28 = some (.ireturn) := by decide +kernel
theorem m126 : (xMet xg 126).2.2 = (11, (some .int)) := by decide +kernel
theorem i126_7 : xIns xg 126 7 = some (.iload_n 2) := by decide +kernel
theorem i126_8 : xIns xg 126 8 = some (.invokestatic 266) := by decide +kernel
theorem i126_11 : xIns xg 126 11 = some (.ifCond .eq 15) := by decide +kernel
theorem i126_14 : xIns xg 126 14 = some (.iload_n 3) := by decide +kernel
theorem i126_15 : xIns xg 126 15 = some (.i2l) := by decide +kernel
theorem i126_16 : xIns xg 126 16 = some (.lconst 0) := by decide +kernel
theorem i126_17 : xIns xg 126 17 = some (.ldc2_w 395) := by decide +kernel
theorem c126_395 : xCon xg 126 395 = some (.long (64)) := by decide +kernel
theorem i126_20 : xIns xg 126 20 = some (.invokestatic 177) := by decide +kernel
theorem l126_177 : xMth xg 126 177 = some (1, 142, 3, 0) := by decide +kernel
theorem i126_23 : xIns xg 126 23 = some (.ifCond .ne 6) := by decide +kernel
theorem i126_29 : xIns xg 126 29 = some (.aload_n 0) := by decide +kernel
theorem i126_30 : xIns xg 126 30 = some (.getfield 13) := by decide +kernel
theorem f126_13 : xFld xg 126 13 = some (7, 1) := by decide +kernel
theorem i126_33 : xIns xg 126 33 = some (.iload_n 1) := by decide +kernel
theorem i126_34 : xIns xg 126 34 = some (.iaload) := by decide +kernel
theorem i126_35 : xIns xg 126 35 = some (.ifCond .eq 12) := by decide +kernel
theorem i126_47 : xIns xg 126 47 = some (.bipush (-3)) := by decide +kernel
theorem i126_49 : xIns xg 126 49 = some (.ireturn) := by decide +kernel
theorem i181_0 : xIns xg 181 0 = some (.iload_n 1) := by decide +kernel
theorem i181_1 : xIns xg 181 1 = some (.invokestatic 266) := by decide +kernel
theorem l181_266 : xMth xg 181 266 = some (1, 153, 1, 0) := by decide +kernel
theorem i181_4 : xIns xg 181 4 = some (.ifCond .ne 6) := by decide +kernel
theorem i181_7 : xIns xg 181 7 = some (.bipush (-2)) := by decide +kernel
theorem i181_9 : xIns xg 181 9 = some (.ireturn) := by decide +kernel
theorem m181 : (xMet xg 181).2.2 = (7, (some .int)) := by decide +kernel
theorem i181_10 : xIns xg 181 10 = some (.aload_n 0) := by decide +kernel
theorem i181_11 : xIns xg 181 11 = some (.getfield 13) := by decide +kernel
theorem f181_13 : xFld xg 181 13 = some (7, 1) := by decide +kernel
theorem i181_14 : xIns xg 181 14 = some (.iload_n 1) := by decide +kernel
theorem i181_15 : xIns xg 181 15 = some (.iaload) := by decide +kernel
theorem i181_16 : xIns xg 181 16 = some (.ifCond .ne 6) := by decide +kernel
theorem i181_19 : xIns xg 181 19 = some (.bipush (-3)) := by decide +kernel
theorem i181_21 : xIns xg 181 21 = some (.ireturn) := by decide +kernel
set_option maxHeartbeats 4000000 in
set_option maxRecDepth 100000 in
theorem r_there {sc : xS} {d : Nat} (f : Nat → xE) (a1 : Int32) (a2 : Int32) : xT xg sc (d + 12) 191 0 [(0, .ref 77), (1, .int (a1)), (2, .int (a2))] [] (hM f) (fun r => r.1 = some (.int (sp_there a1 a2)) ∧ r.2.2 = (0, 0)) := by
  refine wLin 1 i191_0 rfl rfl ?_
  refine jCall 4 [.int (a1)] [] [(0, .int (a1))] i191_1 rfl (xlk1 l191_266) (Or.inr (Or.inl rfl)) m153 rfl rfl (Nat.le_of_ble_eq_true rfl) (Nat.le_of_ble_eq_true rfl) (Nat.le_of_ble_eq_true rfl) rfl rfl rfl ?_
  refine wLin 1 i153_0 rfl rfl ?_
  refine wA 2 i153_1 rfl rfl rfl ?_
  refine wKl 3 0 i153_2 (by decide) rfl ?_
  refine wKd 6 7 i153_3 c153_175 rfl ?_
  refine jCall 9 [.long ((a1).toInt64), .long 0, .long 7] [] [(0, .long ((a1).toInt64)), (2, .long 0), (4, .long 7)] i153_6 rfl (xlk1 l153_177) (Or.inr (Or.inl rfl)) m142 rfl rfl (Nat.le_of_ble_eq_true rfl) (Nat.le_of_ble_eq_true rfl) (Nat.le_of_ble_eq_true rfl) rfl rfl rfl ?_
  refine wLln 1 i142_0 rfl rfl ?_
  refine wLln 2 i142_1 rfl rfl ?_
  refine wA 3 i142_2 rfl rfl rfl ?_
  by_cases c1 : (a1) < 0
  ·
    refine wZT 17 i142_3 rfl (decide_eq_true (wl_lt (l := 0) (by decide) c1)) ?_
    refine wK 18 0 i142_17 (by decide) rfl ?_
    refine jRi i142_18 m142 (by decide) ?_
    refine jRi i153_9 m153 (by decide) ?_
    refine wZT 19 i191_4 rfl (by decide) ?_
    refine wKb 21 (-2) i191_19 (by decide) rfl ?_
    refine wRi i191_21 m191 rfl ?_
    refine ⟨congrArg (fun z => some (Value.int z)) ?_, rfl⟩
    unfold sp_there
    repeat' split
    all_goals first | rfl | (exfalso; simp only [Int32.lt_iff_toInt_lt, Int32.le_iff_toInt_le, ← Int32.toInt_inj] at * <;> (simp at * <;> omega))
  ·
    refine wZF 17 6 i142_3 rfl (decide_eq_false (wl_nlt (l := 0) (by decide) c1)) rfl ?_
    refine wLln 7 i142_6 rfl rfl ?_
    refine wLl 9 i142_7 rfl rfl ?_
    refine wA 10 i142_9 rfl rfl rfl ?_
    by_cases c2 : 7 < (a1)
    ·
      refine wZT 17 i142_10 rfl (decide_eq_true (wl_gt (l := 7) (by decide) c2)) ?_
      refine wK 18 0 i142_17 (by decide) rfl ?_
      refine jRi i142_18 m142 (by decide) ?_
      refine jRi i153_9 m153 (by decide) ?_
      refine wZT 19 i191_4 rfl (by decide) ?_
      refine wKb 21 (-2) i191_19 (by decide) rfl ?_
      refine wRi i191_21 m191 rfl ?_
      refine ⟨congrArg (fun z => some (Value.int z)) ?_, rfl⟩
      unfold sp_there
      repeat' split
      all_goals first | rfl | (exfalso; simp only [Int32.lt_iff_toInt_lt, Int32.le_iff_toInt_le, ← Int32.toInt_inj] at * <;> (simp at * <;> omega))
    ·
      refine wZF 17 13 i142_10 rfl (decide_eq_false (wl_ngt (l := 7) (by decide) c2)) rfl ?_
      refine wK 14 1 i142_13 (by decide) rfl ?_
      refine wGo 18 i142_14 rfl ?_
      refine jRi i142_18 m142 (by decide) ?_
      refine jRi i153_9 m153 (by decide) ?_
      refine wZF 19 7 i191_4 rfl (by decide) rfl ?_
      refine wLin 8 i191_7 rfl rfl ?_
      refine wA 9 i191_8 rfl rfl rfl ?_
      refine wKl 10 0 i191_9 (by decide) rfl ?_
      refine wKd 13 63 i191_10 c191_373 rfl ?_
      refine jCall 16 [.long ((a2).toInt64), .long 0, .long 63] [] [(0, .long ((a2).toInt64)), (2, .long 0), (4, .long 63)] i191_13 rfl (xlk1 l191_177) (Or.inr (Or.inl rfl)) m142 rfl rfl (Nat.le_of_ble_eq_true rfl) (Nat.le_of_ble_eq_true rfl) (Nat.le_of_ble_eq_true rfl) rfl rfl rfl ?_
      refine wLln 1 i142_0 rfl rfl ?_
      refine wLln 2 i142_1 rfl rfl ?_
      refine wA 3 i142_2 rfl rfl rfl ?_
      by_cases c3 : (a2) < 0
      ·
        refine wZT 17 i142_3 rfl (decide_eq_true (wl_lt (l := 0) (by decide) c3)) ?_
        refine wK 18 0 i142_17 (by decide) rfl ?_
        refine jRi i142_18 m142 (by decide) ?_
        refine wZF 22 19 i191_16 rfl (by decide) rfl ?_
        refine wKb 21 (-2) i191_19 (by decide) rfl ?_
        refine wRi i191_21 m191 rfl ?_
        refine ⟨congrArg (fun z => some (Value.int z)) ?_, rfl⟩
        unfold sp_there
        repeat' split
        all_goals first | rfl | (exfalso; simp only [Int32.lt_iff_toInt_lt, Int32.le_iff_toInt_le, ← Int32.toInt_inj] at * <;> (simp at * <;> omega))
      ·
        refine wZF 17 6 i142_3 rfl (decide_eq_false (wl_nlt (l := 0) (by decide) c3)) rfl ?_
        refine wLln 7 i142_6 rfl rfl ?_
        refine wLl 9 i142_7 rfl rfl ?_
        refine wA 10 i142_9 rfl rfl rfl ?_
        by_cases c4 : 63 < (a2)
        ·
          refine wZT 17 i142_10 rfl (decide_eq_true (wl_gt (l := 63) (by decide) c4)) ?_
          refine wK 18 0 i142_17 (by decide) rfl ?_
          refine jRi i142_18 m142 (by decide) ?_
          refine wZF 22 19 i191_16 rfl (by decide) rfl ?_
          refine wKb 21 (-2) i191_19 (by decide) rfl ?_
          refine wRi i191_21 m191 rfl ?_
          refine ⟨congrArg (fun z => some (Value.int z)) ?_, rfl⟩
          unfold sp_there
          repeat' split
          all_goals first | rfl | (exfalso; simp only [Int32.lt_iff_toInt_lt, Int32.le_iff_toInt_le, ← Int32.toInt_inj] at * <;> (simp at * <;> omega))
        ·
          refine wZF 17 13 i142_10 rfl (decide_eq_false (wl_ngt (l := 63) (by decide) c4)) rfl ?_
          refine wK 14 1 i142_13 (by decide) rfl ?_
          refine wGo 18 i142_14 rfl ?_
          refine jRi i142_18 m142 (by decide) ?_
          refine wZT 22 i191_16 rfl (by decide) ?_
          refine wLan 23 i191_22 rfl rfl ?_
          refine wGet 26 (.ref 78) i191_23 f191_13 rfl rfl rfl ?_
          refine wLin 27 i191_26 rfl rfl ?_
          refine wIal 28 i191_27 rfl (x_ib (Int32.not_lt.mp c1) (Int32.not_lt.mp c2) (by decide) (by decide)) rfl ?_
          refine tTop (v := 0) rfl ?_
          refine wZF 34 31 i191_28 rfl (by decide) rfl ?_
          refine wKb 33 (-3) i191_31 (by decide) rfl ?_
          refine wRi i191_33 m191 rfl ?_
          refine ⟨congrArg (fun z => some (Value.int z)) ?_, rfl⟩
          unfold sp_there
          repeat' split
          all_goals first | rfl | (exfalso; simp only [Int32.lt_iff_toInt_lt, Int32.le_iff_toInt_le, ← Int32.toInt_inj] at * <;> (simp at * <;> omega))
set_option maxHeartbeats 4000000 in
set_option maxRecDepth 100000 in
theorem r_is {sc : xS} {d : Nat} (f : Nat → xE) (a1 : Int32) (a2 : Int32) : xT xg sc (d + 12) 144 0 [(0, .ref 77), (1, .int (a1)), (2, .int (a2))] [] (hM f) (fun r => r.1 = some (.int (sp_is a1 a2)) ∧ r.2.2 = (0, 0)) := by
  refine wLin 1 i144_0 rfl rfl ?_
  refine jCall 4 [.int (a1)] [] [(0, .int (a1))] i144_1 rfl (xlk1 l144_266) (Or.inr (Or.inl rfl)) m153 rfl rfl (Nat.le_of_ble_eq_true rfl) (Nat.le_of_ble_eq_true rfl) (Nat.le_of_ble_eq_true rfl) rfl rfl rfl ?_
  refine wLin 1 i153_0 rfl rfl ?_
  refine wA 2 i153_1 rfl rfl rfl ?_
  refine wKl 3 0 i153_2 (by decide) rfl ?_
  refine wKd 6 7 i153_3 c153_175 rfl ?_
  refine jCall 9 [.long ((a1).toInt64), .long 0, .long 7] [] [(0, .long ((a1).toInt64)), (2, .long 0), (4, .long 7)] i153_6 rfl (xlk1 l153_177) (Or.inr (Or.inl rfl)) m142 rfl rfl (Nat.le_of_ble_eq_true rfl) (Nat.le_of_ble_eq_true rfl) (Nat.le_of_ble_eq_true rfl) rfl rfl rfl ?_
  refine wLln 1 i142_0 rfl rfl ?_
  refine wLln 2 i142_1 rfl rfl ?_
  refine wA 3 i142_2 rfl rfl rfl ?_
  by_cases c1 : (a1) < 0
  ·
    refine wZT 17 i142_3 rfl (decide_eq_true (wl_lt (l := 0) (by decide) c1)) ?_
    refine wK 18 0 i142_17 (by decide) rfl ?_
    refine jRi i142_18 m142 (by decide) ?_
    refine jRi i153_9 m153 (by decide) ?_
    refine wZT 19 i144_4 rfl (by decide) ?_
    refine wKb 21 (-2) i144_19 (by decide) rfl ?_
    refine wRi i144_21 m144 rfl ?_
    refine ⟨congrArg (fun z => some (Value.int z)) ?_, rfl⟩
    unfold sp_is
    repeat' split
    all_goals first | rfl | (exfalso; simp only [Int32.lt_iff_toInt_lt, Int32.le_iff_toInt_le, ← Int32.toInt_inj] at * <;> (simp at * <;> omega))
  ·
    refine wZF 17 6 i142_3 rfl (decide_eq_false (wl_nlt (l := 0) (by decide) c1)) rfl ?_
    refine wLln 7 i142_6 rfl rfl ?_
    refine wLl 9 i142_7 rfl rfl ?_
    refine wA 10 i142_9 rfl rfl rfl ?_
    by_cases c2 : 7 < (a1)
    ·
      refine wZT 17 i142_10 rfl (decide_eq_true (wl_gt (l := 7) (by decide) c2)) ?_
      refine wK 18 0 i142_17 (by decide) rfl ?_
      refine jRi i142_18 m142 (by decide) ?_
      refine jRi i153_9 m153 (by decide) ?_
      refine wZT 19 i144_4 rfl (by decide) ?_
      refine wKb 21 (-2) i144_19 (by decide) rfl ?_
      refine wRi i144_21 m144 rfl ?_
      refine ⟨congrArg (fun z => some (Value.int z)) ?_, rfl⟩
      unfold sp_is
      repeat' split
      all_goals first | rfl | (exfalso; simp only [Int32.lt_iff_toInt_lt, Int32.le_iff_toInt_le, ← Int32.toInt_inj] at * <;> (simp at * <;> omega))
    ·
      refine wZF 17 13 i142_10 rfl (decide_eq_false (wl_ngt (l := 7) (by decide) c2)) rfl ?_
      refine wK 14 1 i142_13 (by decide) rfl ?_
      refine wGo 18 i142_14 rfl ?_
      refine jRi i142_18 m142 (by decide) ?_
      refine jRi i153_9 m153 (by decide) ?_
      refine wZF 19 7 i144_4 rfl (by decide) rfl ?_
      refine wLin 8 i144_7 rfl rfl ?_
      refine wA 9 i144_8 rfl rfl rfl ?_
      refine wKl 10 0 i144_9 (by decide) rfl ?_
      refine wKd 13 63 i144_10 c144_373 rfl ?_
      refine jCall 16 [.long ((a2).toInt64), .long 0, .long 63] [] [(0, .long ((a2).toInt64)), (2, .long 0), (4, .long 63)] i144_13 rfl (xlk1 l144_177) (Or.inr (Or.inl rfl)) m142 rfl rfl (Nat.le_of_ble_eq_true rfl) (Nat.le_of_ble_eq_true rfl) (Nat.le_of_ble_eq_true rfl) rfl rfl rfl ?_
      refine wLln 1 i142_0 rfl rfl ?_
      refine wLln 2 i142_1 rfl rfl ?_
      refine wA 3 i142_2 rfl rfl rfl ?_
      by_cases c3 : (a2) < 0
      ·
        refine wZT 17 i142_3 rfl (decide_eq_true (wl_lt (l := 0) (by decide) c3)) ?_
        refine wK 18 0 i142_17 (by decide) rfl ?_
        refine jRi i142_18 m142 (by decide) ?_
        refine wZF 22 19 i144_16 rfl (by decide) rfl ?_
        refine wKb 21 (-2) i144_19 (by decide) rfl ?_
        refine wRi i144_21 m144 rfl ?_
        refine ⟨congrArg (fun z => some (Value.int z)) ?_, rfl⟩
        unfold sp_is
        repeat' split
        all_goals first | rfl | (exfalso; simp only [Int32.lt_iff_toInt_lt, Int32.le_iff_toInt_le, ← Int32.toInt_inj] at * <;> (simp at * <;> omega))
      ·
        refine wZF 17 6 i142_3 rfl (decide_eq_false (wl_nlt (l := 0) (by decide) c3)) rfl ?_
        refine wLln 7 i142_6 rfl rfl ?_
        refine wLl 9 i142_7 rfl rfl ?_
        refine wA 10 i142_9 rfl rfl rfl ?_
        by_cases c4 : 63 < (a2)
        ·
          refine wZT 17 i142_10 rfl (decide_eq_true (wl_gt (l := 63) (by decide) c4)) ?_
          refine wK 18 0 i142_17 (by decide) rfl ?_
          refine jRi i142_18 m142 (by decide) ?_
          refine wZF 22 19 i144_16 rfl (by decide) rfl ?_
          refine wKb 21 (-2) i144_19 (by decide) rfl ?_
          refine wRi i144_21 m144 rfl ?_
          refine ⟨congrArg (fun z => some (Value.int z)) ?_, rfl⟩
          unfold sp_is
          repeat' split
          all_goals first | rfl | (exfalso; simp only [Int32.lt_iff_toInt_lt, Int32.le_iff_toInt_le, ← Int32.toInt_inj] at * <;> (simp at * <;> omega))
        ·
          refine wZF 17 13 i142_10 rfl (decide_eq_false (wl_ngt (l := 63) (by decide) c4)) rfl ?_
          refine wK 14 1 i142_13 (by decide) rfl ?_
          refine wGo 18 i142_14 rfl ?_
          refine jRi i142_18 m142 (by decide) ?_
          refine wZT 22 i144_16 rfl (by decide) ?_
          refine wLan 23 i144_22 rfl rfl ?_
          refine wGet 26 (.ref 78) i144_23 f144_13 rfl rfl rfl ?_
          refine wLin 27 i144_26 rfl rfl ?_
          refine wIal 28 i144_27 rfl (x_ib (Int32.not_lt.mp c1) (Int32.not_lt.mp c2) (by decide) (by decide)) rfl ?_
          refine tTop (v := 0) rfl ?_
          refine wZF 34 31 i144_28 rfl (by decide) rfl ?_
          refine wKb 33 (-3) i144_31 (by decide) rfl ?_
          refine wRi i144_33 m144 rfl ?_
          refine ⟨congrArg (fun z => some (Value.int z)) ?_, rfl⟩
          unfold sp_is
          repeat' split
          all_goals first | rfl | (exfalso; simp only [Int32.lt_iff_toInt_lt, Int32.le_iff_toInt_le, ← Int32.toInt_inj] at * <;> (simp at * <;> omega))
set_option maxHeartbeats 4000000 in
set_option maxRecDepth 100000 in
theorem r_head {sc : xS} {d : Nat} (f : Nat → xE) (a1 : Int32) (a2 : Int32) : xT xg sc (d + 12) 139 0 [(0, .ref 77), (1, .int (a1)), (2, .int (a2))] [] (hM f) (fun r => r.1 = some (.long (sp_head a1 a2)) ∧ r.2.2 = (0, 0)) := by
  refine wLan 1 i139_0 rfl rfl ?_
  refine wLin 2 i139_1 rfl rfl ?_
  refine wLin 3 i139_2 rfl rfl ?_
  refine jCall 6 [.ref 77, .int (a1), .int (a2)] [] [(0, .ref 77), (1, .int (a1)), (2, .int (a2))] i139_3 rfl (xlk0 l139_384) (Or.inl rfl) m144 rfl rfl (Nat.le_of_ble_eq_true rfl) (Nat.le_of_ble_eq_true rfl) (Nat.le_of_ble_eq_true rfl) rfl rfl rfl ?_
  refine wLin 1 i144_0 rfl rfl ?_
  refine jCall 4 [.int (a1)] [] [(0, .int (a1))] i144_1 rfl (xlk1 l144_266) (Or.inr (Or.inl rfl)) m153 rfl rfl (Nat.le_of_ble_eq_true rfl) (Nat.le_of_ble_eq_true rfl) (Nat.le_of_ble_eq_true rfl) rfl rfl rfl ?_
  refine wLin 1 i153_0 rfl rfl ?_
  refine wA 2 i153_1 rfl rfl rfl ?_
  refine wKl 3 0 i153_2 (by decide) rfl ?_
  refine wKd 6 7 i153_3 c153_175 rfl ?_
  refine jCall 9 [.long ((a1).toInt64), .long 0, .long 7] [] [(0, .long ((a1).toInt64)), (2, .long 0), (4, .long 7)] i153_6 rfl (xlk1 l153_177) (Or.inr (Or.inl rfl)) m142 rfl rfl (Nat.le_of_ble_eq_true rfl) (Nat.le_of_ble_eq_true rfl) (Nat.le_of_ble_eq_true rfl) rfl rfl rfl ?_
  refine wLln 1 i142_0 rfl rfl ?_
  refine wLln 2 i142_1 rfl rfl ?_
  refine wA 3 i142_2 rfl rfl rfl ?_
  by_cases c1 : (a1) < 0
  ·
    refine wZT 17 i142_3 rfl (decide_eq_true (wl_lt (l := 0) (by decide) c1)) ?_
    refine wK 18 0 i142_17 (by decide) rfl ?_
    refine jRi i142_18 m142 (by decide) ?_
    refine jRi i153_9 m153 (by decide) ?_
    refine wZT 19 i144_4 rfl (by decide) ?_
    refine wKb 21 (-2) i144_19 (by decide) rfl ?_
    refine jRi i144_21 m144 rfl ?_
    refine wK 7 1 i139_6 (by decide) rfl ?_
    refine wCT 17 i139_7 rfl (by decide) ?_
    refine wKd 20 (-4611686018427387904) i139_17 c139_285 rfl ?_
    refine wRl i139_20 m139 ?_
    refine ⟨congrArg (fun z => some (Value.long z)) ?_, rfl⟩
    unfold sp_head
    repeat' split
    all_goals first | rfl | (exfalso; simp only [Int32.lt_iff_toInt_lt, Int32.le_iff_toInt_le, ← Int32.toInt_inj] at * <;> (simp at * <;> omega))
  ·
    refine wZF 17 6 i142_3 rfl (decide_eq_false (wl_nlt (l := 0) (by decide) c1)) rfl ?_
    refine wLln 7 i142_6 rfl rfl ?_
    refine wLl 9 i142_7 rfl rfl ?_
    refine wA 10 i142_9 rfl rfl rfl ?_
    by_cases c2 : 7 < (a1)
    ·
      refine wZT 17 i142_10 rfl (decide_eq_true (wl_gt (l := 7) (by decide) c2)) ?_
      refine wK 18 0 i142_17 (by decide) rfl ?_
      refine jRi i142_18 m142 (by decide) ?_
      refine jRi i153_9 m153 (by decide) ?_
      refine wZT 19 i144_4 rfl (by decide) ?_
      refine wKb 21 (-2) i144_19 (by decide) rfl ?_
      refine jRi i144_21 m144 rfl ?_
      refine wK 7 1 i139_6 (by decide) rfl ?_
      refine wCT 17 i139_7 rfl (by decide) ?_
      refine wKd 20 (-4611686018427387904) i139_17 c139_285 rfl ?_
      refine wRl i139_20 m139 ?_
      refine ⟨congrArg (fun z => some (Value.long z)) ?_, rfl⟩
      unfold sp_head
      repeat' split
      all_goals first | rfl | (exfalso; simp only [Int32.lt_iff_toInt_lt, Int32.le_iff_toInt_le, ← Int32.toInt_inj] at * <;> (simp at * <;> omega))
    ·
      refine wZF 17 13 i142_10 rfl (decide_eq_false (wl_ngt (l := 7) (by decide) c2)) rfl ?_
      refine wK 14 1 i142_13 (by decide) rfl ?_
      refine wGo 18 i142_14 rfl ?_
      refine jRi i142_18 m142 (by decide) ?_
      refine jRi i153_9 m153 (by decide) ?_
      refine wZF 19 7 i144_4 rfl (by decide) rfl ?_
      refine wLin 8 i144_7 rfl rfl ?_
      refine wA 9 i144_8 rfl rfl rfl ?_
      refine wKl 10 0 i144_9 (by decide) rfl ?_
      refine wKd 13 63 i144_10 c144_373 rfl ?_
      refine jCall 16 [.long ((a2).toInt64), .long 0, .long 63] [] [(0, .long ((a2).toInt64)), (2, .long 0), (4, .long 63)] i144_13 rfl (xlk1 l144_177) (Or.inr (Or.inl rfl)) m142 rfl rfl (Nat.le_of_ble_eq_true rfl) (Nat.le_of_ble_eq_true rfl) (Nat.le_of_ble_eq_true rfl) rfl rfl rfl ?_
      refine wLln 1 i142_0 rfl rfl ?_
      refine wLln 2 i142_1 rfl rfl ?_
      refine wA 3 i142_2 rfl rfl rfl ?_
      by_cases c3 : (a2) < 0
      ·
        refine wZT 17 i142_3 rfl (decide_eq_true (wl_lt (l := 0) (by decide) c3)) ?_
        refine wK 18 0 i142_17 (by decide) rfl ?_
        refine jRi i142_18 m142 (by decide) ?_
        refine wZF 22 19 i144_16 rfl (by decide) rfl ?_
        refine wKb 21 (-2) i144_19 (by decide) rfl ?_
        refine jRi i144_21 m144 rfl ?_
        refine wK 7 1 i139_6 (by decide) rfl ?_
        refine wCT 17 i139_7 rfl (by decide) ?_
        refine wKd 20 (-4611686018427387904) i139_17 c139_285 rfl ?_
        refine wRl i139_20 m139 ?_
        refine ⟨congrArg (fun z => some (Value.long z)) ?_, rfl⟩
        unfold sp_head
        repeat' split
        all_goals first | rfl | (exfalso; simp only [Int32.lt_iff_toInt_lt, Int32.le_iff_toInt_le, ← Int32.toInt_inj] at * <;> (simp at * <;> omega))
      ·
        refine wZF 17 6 i142_3 rfl (decide_eq_false (wl_nlt (l := 0) (by decide) c3)) rfl ?_
        refine wLln 7 i142_6 rfl rfl ?_
        refine wLl 9 i142_7 rfl rfl ?_
        refine wA 10 i142_9 rfl rfl rfl ?_
        by_cases c4 : 63 < (a2)
        ·
          refine wZT 17 i142_10 rfl (decide_eq_true (wl_gt (l := 63) (by decide) c4)) ?_
          refine wK 18 0 i142_17 (by decide) rfl ?_
          refine jRi i142_18 m142 (by decide) ?_
          refine wZF 22 19 i144_16 rfl (by decide) rfl ?_
          refine wKb 21 (-2) i144_19 (by decide) rfl ?_
          refine jRi i144_21 m144 rfl ?_
          refine wK 7 1 i139_6 (by decide) rfl ?_
          refine wCT 17 i139_7 rfl (by decide) ?_
          refine wKd 20 (-4611686018427387904) i139_17 c139_285 rfl ?_
          refine wRl i139_20 m139 ?_
          refine ⟨congrArg (fun z => some (Value.long z)) ?_, rfl⟩
          unfold sp_head
          repeat' split
          all_goals first | rfl | (exfalso; simp only [Int32.lt_iff_toInt_lt, Int32.le_iff_toInt_le, ← Int32.toInt_inj] at * <;> (simp at * <;> omega))
        ·
          refine wZF 17 13 i142_10 rfl (decide_eq_false (wl_ngt (l := 63) (by decide) c4)) rfl ?_
          refine wK 14 1 i142_13 (by decide) rfl ?_
          refine wGo 18 i142_14 rfl ?_
          refine jRi i142_18 m142 (by decide) ?_
          refine wZT 22 i144_16 rfl (by decide) ?_
          refine wLan 23 i144_22 rfl rfl ?_
          refine wGet 26 (.ref 78) i144_23 f144_13 rfl rfl rfl ?_
          refine wLin 27 i144_26 rfl rfl ?_
          refine wIal 28 i144_27 rfl (x_ib (Int32.not_lt.mp c1) (Int32.not_lt.mp c2) (by decide) (by decide)) rfl ?_
          refine tTop (v := 0) rfl ?_
          refine wZF 34 31 i144_28 rfl (by decide) rfl ?_
          refine wKb 33 (-3) i144_31 (by decide) rfl ?_
          refine jRi i144_33 m144 rfl ?_
          refine wK 7 1 i139_6 (by decide) rfl ?_
          refine wCT 17 i139_7 rfl (by decide) ?_
          refine wKd 20 (-4611686018427387904) i139_17 c139_285 rfl ?_
          refine wRl i139_20 m139 ?_
          refine ⟨congrArg (fun z => some (Value.long z)) ?_, rfl⟩
          unfold sp_head
          repeat' split
          all_goals first | rfl | (exfalso; simp only [Int32.lt_iff_toInt_lt, Int32.le_iff_toInt_le, ← Int32.toInt_inj] at * <;> (simp at * <;> omega))
set_option maxHeartbeats 4000000 in
set_option maxRecDepth 100000 in
theorem r_need {sc : xS} {d : Nat} (f : Nat → xE) (a1 : Int32) (a2 : Int32) : xT xg sc (d + 12) 166 0 [(0, .ref 77), (1, .int (a1)), (2, .int (a2))] [] (hM f) (fun r => r.1 = some (.int (sp_need a1 a2)) ∧ r.2.2 = (0, 0)) := by
  refine wLin 1 i166_0 rfl rfl ?_
  refine jCall 4 [.int (a1)] [] [(0, .int (a1))] i166_1 rfl (xlk1 l166_266) (Or.inr (Or.inl rfl)) m153 rfl rfl (Nat.le_of_ble_eq_true rfl) (Nat.le_of_ble_eq_true rfl) (Nat.le_of_ble_eq_true rfl) rfl rfl rfl ?_
  refine wLin 1 i153_0 rfl rfl ?_
  refine wA 2 i153_1 rfl rfl rfl ?_
  refine wKl 3 0 i153_2 (by decide) rfl ?_
  refine wKd 6 7 i153_3 c153_175 rfl ?_
  refine jCall 9 [.long ((a1).toInt64), .long 0, .long 7] [] [(0, .long ((a1).toInt64)), (2, .long 0), (4, .long 7)] i153_6 rfl (xlk1 l153_177) (Or.inr (Or.inl rfl)) m142 rfl rfl (Nat.le_of_ble_eq_true rfl) (Nat.le_of_ble_eq_true rfl) (Nat.le_of_ble_eq_true rfl) rfl rfl rfl ?_
  refine wLln 1 i142_0 rfl rfl ?_
  refine wLln 2 i142_1 rfl rfl ?_
  refine wA 3 i142_2 rfl rfl rfl ?_
  by_cases c1 : (a1) < 0
  ·
    refine wZT 17 i142_3 rfl (decide_eq_true (wl_lt (l := 0) (by decide) c1)) ?_
    refine wK 18 0 i142_17 (by decide) rfl ?_
    refine jRi i142_18 m142 (by decide) ?_
    refine jRi i153_9 m153 (by decide) ?_
    refine wZT 19 i166_4 rfl (by decide) ?_
    refine wKb 21 (-2) i166_19 (by decide) rfl ?_
    refine wRi i166_21 m166 rfl ?_
    refine ⟨congrArg (fun z => some (Value.int z)) ?_, rfl⟩
    unfold sp_need
    repeat' split
    all_goals first | rfl | (exfalso; simp only [Int32.lt_iff_toInt_lt, Int32.le_iff_toInt_le, ← Int32.toInt_inj] at * <;> (simp at * <;> omega))
  ·
    refine wZF 17 6 i142_3 rfl (decide_eq_false (wl_nlt (l := 0) (by decide) c1)) rfl ?_
    refine wLln 7 i142_6 rfl rfl ?_
    refine wLl 9 i142_7 rfl rfl ?_
    refine wA 10 i142_9 rfl rfl rfl ?_
    by_cases c2 : 7 < (a1)
    ·
      refine wZT 17 i142_10 rfl (decide_eq_true (wl_gt (l := 7) (by decide) c2)) ?_
      refine wK 18 0 i142_17 (by decide) rfl ?_
      refine jRi i142_18 m142 (by decide) ?_
      refine jRi i153_9 m153 (by decide) ?_
      refine wZT 19 i166_4 rfl (by decide) ?_
      refine wKb 21 (-2) i166_19 (by decide) rfl ?_
      refine wRi i166_21 m166 rfl ?_
      refine ⟨congrArg (fun z => some (Value.int z)) ?_, rfl⟩
      unfold sp_need
      repeat' split
      all_goals first | rfl | (exfalso; simp only [Int32.lt_iff_toInt_lt, Int32.le_iff_toInt_le, ← Int32.toInt_inj] at * <;> (simp at * <;> omega))
    ·
      refine wZF 17 13 i142_10 rfl (decide_eq_false (wl_ngt (l := 7) (by decide) c2)) rfl ?_
      refine wK 14 1 i142_13 (by decide) rfl ?_
      refine wGo 18 i142_14 rfl ?_
      refine jRi i142_18 m142 (by decide) ?_
      refine jRi i153_9 m153 (by decide) ?_
      refine wZF 19 7 i166_4 rfl (by decide) rfl ?_
      refine wLin 8 i166_7 rfl rfl ?_
      refine wA 9 i166_8 rfl rfl rfl ?_
      refine wKl 10 0 i166_9 (by decide) rfl ?_
      refine wKd 13 63 i166_10 c166_373 rfl ?_
      refine jCall 16 [.long ((a2).toInt64), .long 0, .long 63] [] [(0, .long ((a2).toInt64)), (2, .long 0), (4, .long 63)] i166_13 rfl (xlk1 l166_177) (Or.inr (Or.inl rfl)) m142 rfl rfl (Nat.le_of_ble_eq_true rfl) (Nat.le_of_ble_eq_true rfl) (Nat.le_of_ble_eq_true rfl) rfl rfl rfl ?_
      refine wLln 1 i142_0 rfl rfl ?_
      refine wLln 2 i142_1 rfl rfl ?_
      refine wA 3 i142_2 rfl rfl rfl ?_
      by_cases c3 : (a2) < 0
      ·
        refine wZT 17 i142_3 rfl (decide_eq_true (wl_lt (l := 0) (by decide) c3)) ?_
        refine wK 18 0 i142_17 (by decide) rfl ?_
        refine jRi i142_18 m142 (by decide) ?_
        refine wZF 22 19 i166_16 rfl (by decide) rfl ?_
        refine wKb 21 (-2) i166_19 (by decide) rfl ?_
        refine wRi i166_21 m166 rfl ?_
        refine ⟨congrArg (fun z => some (Value.int z)) ?_, rfl⟩
        unfold sp_need
        repeat' split
        all_goals first | rfl | (exfalso; simp only [Int32.lt_iff_toInt_lt, Int32.le_iff_toInt_le, ← Int32.toInt_inj] at * <;> (simp at * <;> omega))
      ·
        refine wZF 17 6 i142_3 rfl (decide_eq_false (wl_nlt (l := 0) (by decide) c3)) rfl ?_
        refine wLln 7 i142_6 rfl rfl ?_
        refine wLl 9 i142_7 rfl rfl ?_
        refine wA 10 i142_9 rfl rfl rfl ?_
        by_cases c4 : 63 < (a2)
        ·
          refine wZT 17 i142_10 rfl (decide_eq_true (wl_gt (l := 63) (by decide) c4)) ?_
          refine wK 18 0 i142_17 (by decide) rfl ?_
          refine jRi i142_18 m142 (by decide) ?_
          refine wZF 22 19 i166_16 rfl (by decide) rfl ?_
          refine wKb 21 (-2) i166_19 (by decide) rfl ?_
          refine wRi i166_21 m166 rfl ?_
          refine ⟨congrArg (fun z => some (Value.int z)) ?_, rfl⟩
          unfold sp_need
          repeat' split
          all_goals first | rfl | (exfalso; simp only [Int32.lt_iff_toInt_lt, Int32.le_iff_toInt_le, ← Int32.toInt_inj] at * <;> (simp at * <;> omega))
        ·
          refine wZF 17 13 i142_10 rfl (decide_eq_false (wl_ngt (l := 63) (by decide) c4)) rfl ?_
          refine wK 14 1 i142_13 (by decide) rfl ?_
          refine wGo 18 i142_14 rfl ?_
          refine jRi i142_18 m142 (by decide) ?_
          refine wZT 22 i166_16 rfl (by decide) ?_
          refine wLan 23 i166_22 rfl rfl ?_
          refine wGet 26 (.ref 78) i166_23 f166_13 rfl rfl rfl ?_
          refine wLin 27 i166_26 rfl rfl ?_
          refine wIal 28 i166_27 rfl (x_ib (Int32.not_lt.mp c1) (Int32.not_lt.mp c2) (by decide) (by decide)) rfl ?_
          refine tTop (v := 0) rfl ?_
          refine wZF 34 31 i166_28 rfl (by decide) rfl ?_
          refine wKb 33 (-3) i166_31 (by decide) rfl ?_
          refine wRi i166_33 m166 rfl ?_
          refine ⟨congrArg (fun z => some (Value.int z)) ?_, rfl⟩
          unfold sp_need
          repeat' split
          all_goals first | rfl | (exfalso; simp only [Int32.lt_iff_toInt_lt, Int32.le_iff_toInt_le, ← Int32.toInt_inj] at * <;> (simp at * <;> omega))
set_option maxHeartbeats 4000000 in
set_option maxRecDepth 100000 in
theorem r_limit {sc : xS} {d : Nat} (f : Nat → xE) (a1 : Int32) : xT xg sc (d + 12) 163 0 [(0, .ref 77), (1, .int (a1))] [] (hM f) (fun r => r.1 = some (.int (sp_limit a1)) ∧ r.2.2 = (0, 0)) := by
  refine wLin 1 i163_0 rfl rfl ?_
  refine wA 2 i163_1 rfl rfl rfl ?_
  refine wKl 3 0 i163_2 (by decide) rfl ?_
  refine wKd 6 99 i163_3 c163_387 rfl ?_
  refine jCall 9 [.long ((a1).toInt64), .long 0, .long 99] [] [(0, .long ((a1).toInt64)), (2, .long 0), (4, .long 99)] i163_6 rfl (xlk1 l163_177) (Or.inr (Or.inl rfl)) m142 rfl rfl (Nat.le_of_ble_eq_true rfl) (Nat.le_of_ble_eq_true rfl) (Nat.le_of_ble_eq_true rfl) rfl rfl rfl ?_
  refine wLln 1 i142_0 rfl rfl ?_
  refine wLln 2 i142_1 rfl rfl ?_
  refine wA 3 i142_2 rfl rfl rfl ?_
  by_cases c1 : (a1) < 0
  ·
    refine wZT 17 i142_3 rfl (decide_eq_true (wl_lt (l := 0) (by decide) c1)) ?_
    refine wK 18 0 i142_17 (by decide) rfl ?_
    refine jRi i142_18 m142 (by decide) ?_
    refine wZF 15 12 i163_9 rfl (by decide) rfl ?_
    refine wKb 14 (-2) i163_12 (by decide) rfl ?_
    refine wRi i163_14 m163 rfl ?_
    refine ⟨congrArg (fun z => some (Value.int z)) ?_, rfl⟩
    unfold sp_limit
    repeat' split
    all_goals first | rfl | (exfalso; simp only [Int32.lt_iff_toInt_lt, Int32.le_iff_toInt_le, ← Int32.toInt_inj] at * <;> (simp at * <;> omega))
  ·
    refine wZF 17 6 i142_3 rfl (decide_eq_false (wl_nlt (l := 0) (by decide) c1)) rfl ?_
    refine wLln 7 i142_6 rfl rfl ?_
    refine wLl 9 i142_7 rfl rfl ?_
    refine wA 10 i142_9 rfl rfl rfl ?_
    by_cases c2 : 99 < (a1)
    ·
      refine wZT 17 i142_10 rfl (decide_eq_true (wl_gt (l := 99) (by decide) c2)) ?_
      refine wK 18 0 i142_17 (by decide) rfl ?_
      refine jRi i142_18 m142 (by decide) ?_
      refine wZF 15 12 i163_9 rfl (by decide) rfl ?_
      refine wKb 14 (-2) i163_12 (by decide) rfl ?_
      refine wRi i163_14 m163 rfl ?_
      refine ⟨congrArg (fun z => some (Value.int z)) ?_, rfl⟩
      unfold sp_limit
      repeat' split
      all_goals first | rfl | (exfalso; simp only [Int32.lt_iff_toInt_lt, Int32.le_iff_toInt_le, ← Int32.toInt_inj] at * <;> (simp at * <;> omega))
    ·
      refine wZF 17 13 i142_10 rfl (decide_eq_false (wl_ngt (l := 99) (by decide) c2)) rfl ?_
      refine wK 14 1 i142_13 (by decide) rfl ?_
      refine wGo 18 i142_14 rfl ?_
      refine jRi i142_18 m142 (by decide) ?_
      refine wZT 15 i163_9 rfl (by decide) ?_
      refine wLan 16 i163_15 rfl rfl ?_
      refine wGet 19 (.int 99) i163_16 f163_39 rfl rfl rfl ?_
      refine wSin 20 [(2, .int 99), (0, .ref 77), (1, .int (a1))] i163_19 m163 (by decide) rfl rfl ?_
      refine wLan 21 i163_20 rfl rfl ?_
      refine wLin 22 i163_21 rfl rfl ?_
      refine wPut 25 i163_22 p163_39 rfl (by decide) rfl rfl rfl ?_
      refine wLin 26 i163_25 rfl rfl ?_
      refine wRi i163_26 m163 rfl ?_
      refine ⟨congrArg (fun z => some (Value.int z)) ?_, rfl⟩
      unfold sp_limit
      repeat' split
      all_goals first | rfl | (exfalso; simp only [Int32.lt_iff_toInt_lt, Int32.le_iff_toInt_le, ← Int32.toInt_inj] at * <;> (simp at * <;> omega))
set_option maxHeartbeats 4000000 in
set_option maxRecDepth 100000 in
theorem r_forget {sc : xS} {d : Nat} (f : Nat → xE)  : xT xg sc (d + 12) 135 0 [(0, .ref 77)] [] (hM f) (fun r => r.1 = some (.int (sp_forget )) ∧ r.2.2 = (0, 0)) := by
  refine wLan 1 i135_0 rfl rfl ?_
  refine wK 2 0 i135_1 (by decide) rfl ?_
  refine jCall 5 [.ref 77, .int 0] [] [(0, .ref 77), (1, .int 0)] i135_2 rfl (xlk0 l135_389) (Or.inl rfl) m192 rfl rfl (Nat.le_of_ble_eq_true rfl) (Nat.le_of_ble_eq_true rfl) (Nat.le_of_ble_eq_true rfl) rfl rfl rfl ?_
  refine wK 1 0 i192_0 (by decide) rfl ?_
  refine wSin 2 [(2, .int 0), (0, .ref 77), (1, .int 0)] i192_1 m192 (by decide) rfl rfl ?_
  refine wK 3 0 i192_2 (by decide) rfl ?_
  refine wSin 4 [(3, .int 0), (2, .int 0), (0, .ref 77), (1, .int 0)] i192_3 m192 (by decide) rfl rfl ?_
  refine wLin 5 i192_4 rfl rfl ?_
  refine wKb 7 8 i192_5 (by decide) rfl ?_
  refine wCF 69 10 i192_7 rfl (by decide) rfl ?_
  refine wK 11 0 i192_10 (by decide) rfl ?_
  refine wSi 13 [(4, .int 0), (3, .int 0), (2, .int 0), (0, .ref 77), (1, .int 0)] i192_11 m192 (by decide) rfl rfl ?_
  refine wLi 15 i192_13 rfl rfl ?_
  refine wLan 16 i192_15 rfl rfl ?_
  refine wGet 19 (.ref 78) i192_16 f192_13 rfl rfl rfl ?_
  refine wLin 20 i192_19 rfl rfl ?_
  refine wIal 21 i192_20 rfl (by decide) rfl ?_
  refine tTop (v := 0) rfl ?_
  refine wCT 63 i192_21 rfl (by decide) ?_
  refine wInc 66 [(3, .int 1), (4, .int 0), (2, .int 0), (0, .ref 77), (1, .int 0)] 1 i192_63 m192 (by decide) rfl (by decide) rfl rfl ?_
  refine wGo 4 i192_66 rfl ?_
  refine wLin 5 i192_4 rfl rfl ?_
  refine wKb 7 8 i192_5 (by decide) rfl ?_
  refine wCF 69 10 i192_7 rfl (by decide) rfl ?_
  refine wK 11 0 i192_10 (by decide) rfl ?_
  refine wSi 13 [(4, .int 0), (3, .int 1), (2, .int 0), (0, .ref 77), (1, .int 0)] i192_11 m192 (by decide) rfl rfl ?_
  refine wLi 15 i192_13 rfl rfl ?_
  refine wLan 16 i192_15 rfl rfl ?_
  refine wGet 19 (.ref 78) i192_16 f192_13 rfl rfl rfl ?_
  refine wLin 20 i192_19 rfl rfl ?_
  refine wIal 21 i192_20 rfl (by decide) rfl ?_
  refine tTop (v := 0) rfl ?_
  refine wCT 63 i192_21 rfl (by decide) ?_
  refine wInc 66 [(3, .int 2), (4, .int 0), (2, .int 0), (0, .ref 77), (1, .int 0)] 2 i192_63 m192 (by decide) rfl (by decide) rfl rfl ?_
  refine wGo 4 i192_66 rfl ?_
  refine wLin 5 i192_4 rfl rfl ?_
  refine wKb 7 8 i192_5 (by decide) rfl ?_
  refine wCF 69 10 i192_7 rfl (by decide) rfl ?_
  refine wK 11 0 i192_10 (by decide) rfl ?_
  refine wSi 13 [(4, .int 0), (3, .int 2), (2, .int 0), (0, .ref 77), (1, .int 0)] i192_11 m192 (by decide) rfl rfl ?_
  refine wLi 15 i192_13 rfl rfl ?_
  refine wLan 16 i192_15 rfl rfl ?_
  refine wGet 19 (.ref 78) i192_16 f192_13 rfl rfl rfl ?_
  refine wLin 20 i192_19 rfl rfl ?_
  refine wIal 21 i192_20 rfl (by decide) rfl ?_
  refine tTop (v := 0) rfl ?_
  refine wCT 63 i192_21 rfl (by decide) ?_
  refine wInc 66 [(3, .int 3), (4, .int 0), (2, .int 0), (0, .ref 77), (1, .int 0)] 3 i192_63 m192 (by decide) rfl (by decide) rfl rfl ?_
  refine wGo 4 i192_66 rfl ?_
  refine wLin 5 i192_4 rfl rfl ?_
  refine wKb 7 8 i192_5 (by decide) rfl ?_
  refine wCF 69 10 i192_7 rfl (by decide) rfl ?_
  refine wK 11 0 i192_10 (by decide) rfl ?_
  refine wSi 13 [(4, .int 0), (3, .int 3), (2, .int 0), (0, .ref 77), (1, .int 0)] i192_11 m192 (by decide) rfl rfl ?_
  refine wLi 15 i192_13 rfl rfl ?_
  refine wLan 16 i192_15 rfl rfl ?_
  refine wGet 19 (.ref 78) i192_16 f192_13 rfl rfl rfl ?_
  refine wLin 20 i192_19 rfl rfl ?_
  refine wIal 21 i192_20 rfl (by decide) rfl ?_
  refine tTop (v := 0) rfl ?_
  refine wCT 63 i192_21 rfl (by decide) ?_
  refine wInc 66 [(3, .int 4), (4, .int 0), (2, .int 0), (0, .ref 77), (1, .int 0)] 4 i192_63 m192 (by decide) rfl (by decide) rfl rfl ?_
  refine wGo 4 i192_66 rfl ?_
  refine wLin 5 i192_4 rfl rfl ?_
  refine wKb 7 8 i192_5 (by decide) rfl ?_
  refine wCF 69 10 i192_7 rfl (by decide) rfl ?_
  refine wK 11 0 i192_10 (by decide) rfl ?_
  refine wSi 13 [(4, .int 0), (3, .int 4), (2, .int 0), (0, .ref 77), (1, .int 0)] i192_11 m192 (by decide) rfl rfl ?_
  refine wLi 15 i192_13 rfl rfl ?_
  refine wLan 16 i192_15 rfl rfl ?_
  refine wGet 19 (.ref 78) i192_16 f192_13 rfl rfl rfl ?_
  refine wLin 20 i192_19 rfl rfl ?_
  refine wIal 21 i192_20 rfl (by decide) rfl ?_
  refine tTop (v := 0) rfl ?_
  refine wCT 63 i192_21 rfl (by decide) ?_
  refine wInc 66 [(3, .int 5), (4, .int 0), (2, .int 0), (0, .ref 77), (1, .int 0)] 5 i192_63 m192 (by decide) rfl (by decide) rfl rfl ?_
  refine wGo 4 i192_66 rfl ?_
  refine wLin 5 i192_4 rfl rfl ?_
  refine wKb 7 8 i192_5 (by decide) rfl ?_
  refine wCF 69 10 i192_7 rfl (by decide) rfl ?_
  refine wK 11 0 i192_10 (by decide) rfl ?_
  refine wSi 13 [(4, .int 0), (3, .int 5), (2, .int 0), (0, .ref 77), (1, .int 0)] i192_11 m192 (by decide) rfl rfl ?_
  refine wLi 15 i192_13 rfl rfl ?_
  refine wLan 16 i192_15 rfl rfl ?_
  refine wGet 19 (.ref 78) i192_16 f192_13 rfl rfl rfl ?_
  refine wLin 20 i192_19 rfl rfl ?_
  refine wIal 21 i192_20 rfl (by decide) rfl ?_
  refine tTop (v := 0) rfl ?_
  refine wCT 63 i192_21 rfl (by decide) ?_
  refine wInc 66 [(3, .int 6), (4, .int 0), (2, .int 0), (0, .ref 77), (1, .int 0)] 6 i192_63 m192 (by decide) rfl (by decide) rfl rfl ?_
  refine wGo 4 i192_66 rfl ?_
  refine wLin 5 i192_4 rfl rfl ?_
  refine wKb 7 8 i192_5 (by decide) rfl ?_
  refine wCF 69 10 i192_7 rfl (by decide) rfl ?_
  refine wK 11 0 i192_10 (by decide) rfl ?_
  refine wSi 13 [(4, .int 0), (3, .int 6), (2, .int 0), (0, .ref 77), (1, .int 0)] i192_11 m192 (by decide) rfl rfl ?_
  refine wLi 15 i192_13 rfl rfl ?_
  refine wLan 16 i192_15 rfl rfl ?_
  refine wGet 19 (.ref 78) i192_16 f192_13 rfl rfl rfl ?_
  refine wLin 20 i192_19 rfl rfl ?_
  refine wIal 21 i192_20 rfl (by decide) rfl ?_
  refine tTop (v := 0) rfl ?_
  refine wCT 63 i192_21 rfl (by decide) ?_
  refine wInc 66 [(3, .int 7), (4, .int 0), (2, .int 0), (0, .ref 77), (1, .int 0)] 7 i192_63 m192 (by decide) rfl (by decide) rfl rfl ?_
  refine wGo 4 i192_66 rfl ?_
  refine wLin 5 i192_4 rfl rfl ?_
  refine wKb 7 8 i192_5 (by decide) rfl ?_
  refine wCF 69 10 i192_7 rfl (by decide) rfl ?_
  refine wK 11 0 i192_10 (by decide) rfl ?_
  refine wSi 13 [(4, .int 0), (3, .int 7), (2, .int 0), (0, .ref 77), (1, .int 0)] i192_11 m192 (by decide) rfl rfl ?_
  refine wLi 15 i192_13 rfl rfl ?_
  refine wLan 16 i192_15 rfl rfl ?_
  refine wGet 19 (.ref 78) i192_16 f192_13 rfl rfl rfl ?_
  refine wLin 20 i192_19 rfl rfl ?_
  refine wIal 21 i192_20 rfl (by decide) rfl ?_
  refine tTop (v := 0) rfl ?_
  refine wCT 63 i192_21 rfl (by decide) ?_
  refine wInc 66 [(3, .int 8), (4, .int 0), (2, .int 0), (0, .ref 77), (1, .int 0)] 8 i192_63 m192 (by decide) rfl (by decide) rfl rfl ?_
  refine wGo 4 i192_66 rfl ?_
  refine wLin 5 i192_4 rfl rfl ?_
  refine wKb 7 8 i192_5 (by decide) rfl ?_
  refine wCT 69 i192_7 rfl (by decide) ?_
  refine wLin 70 i192_69 rfl rfl ?_
  refine jRi i192_70 m192 rfl ?_
  refine wLan 6 i135_5 rfl rfl ?_
  refine wK 7 1 i135_6 (by decide) rfl ?_
  refine jCall 10 [.ref 77, .int 1] [.int 0] [(0, .ref 77), (1, .int 1)] i135_7 rfl (xlk0 l135_389) (Or.inl rfl) m192 rfl rfl (Nat.le_of_ble_eq_true rfl) (Nat.le_of_ble_eq_true rfl) (Nat.le_of_ble_eq_true rfl) rfl rfl rfl ?_
  refine wK 1 0 i192_0 (by decide) rfl ?_
  refine wSin 2 [(2, .int 0), (0, .ref 77), (1, .int 1)] i192_1 m192 (by decide) rfl rfl ?_
  refine wK 3 0 i192_2 (by decide) rfl ?_
  refine wSin 4 [(3, .int 0), (2, .int 0), (0, .ref 77), (1, .int 1)] i192_3 m192 (by decide) rfl rfl ?_
  refine wLin 5 i192_4 rfl rfl ?_
  refine wKb 7 8 i192_5 (by decide) rfl ?_
  refine wCF 69 10 i192_7 rfl (by decide) rfl ?_
  refine wK 11 0 i192_10 (by decide) rfl ?_
  refine wSi 13 [(4, .int 0), (3, .int 0), (2, .int 0), (0, .ref 77), (1, .int 1)] i192_11 m192 (by decide) rfl rfl ?_
  refine wLi 15 i192_13 rfl rfl ?_
  refine wLan 16 i192_15 rfl rfl ?_
  refine wGet 19 (.ref 78) i192_16 f192_13 rfl rfl rfl ?_
  refine wLin 20 i192_19 rfl rfl ?_
  refine wIal 21 i192_20 rfl (by decide) rfl ?_
  refine tTop (v := 0) rfl ?_
  refine wCT 63 i192_21 rfl (by decide) ?_
  refine wInc 66 [(3, .int 1), (4, .int 0), (2, .int 0), (0, .ref 77), (1, .int 1)] 1 i192_63 m192 (by decide) rfl (by decide) rfl rfl ?_
  refine wGo 4 i192_66 rfl ?_
  refine wLin 5 i192_4 rfl rfl ?_
  refine wKb 7 8 i192_5 (by decide) rfl ?_
  refine wCF 69 10 i192_7 rfl (by decide) rfl ?_
  refine wK 11 0 i192_10 (by decide) rfl ?_
  refine wSi 13 [(4, .int 0), (3, .int 1), (2, .int 0), (0, .ref 77), (1, .int 1)] i192_11 m192 (by decide) rfl rfl ?_
  refine wLi 15 i192_13 rfl rfl ?_
  refine wLan 16 i192_15 rfl rfl ?_
  refine wGet 19 (.ref 78) i192_16 f192_13 rfl rfl rfl ?_
  refine wLin 20 i192_19 rfl rfl ?_
  refine wIal 21 i192_20 rfl (by decide) rfl ?_
  refine tTop (v := 0) rfl ?_
  refine wCT 63 i192_21 rfl (by decide) ?_
  refine wInc 66 [(3, .int 2), (4, .int 0), (2, .int 0), (0, .ref 77), (1, .int 1)] 2 i192_63 m192 (by decide) rfl (by decide) rfl rfl ?_
  refine wGo 4 i192_66 rfl ?_
  refine wLin 5 i192_4 rfl rfl ?_
  refine wKb 7 8 i192_5 (by decide) rfl ?_
  refine wCF 69 10 i192_7 rfl (by decide) rfl ?_
  refine wK 11 0 i192_10 (by decide) rfl ?_
  refine wSi 13 [(4, .int 0), (3, .int 2), (2, .int 0), (0, .ref 77), (1, .int 1)] i192_11 m192 (by decide) rfl rfl ?_
  refine wLi 15 i192_13 rfl rfl ?_
  refine wLan 16 i192_15 rfl rfl ?_
  refine wGet 19 (.ref 78) i192_16 f192_13 rfl rfl rfl ?_
  refine wLin 20 i192_19 rfl rfl ?_
  refine wIal 21 i192_20 rfl (by decide) rfl ?_
  refine tTop (v := 0) rfl ?_
  refine wCT 63 i192_21 rfl (by decide) ?_
  refine wInc 66 [(3, .int 3), (4, .int 0), (2, .int 0), (0, .ref 77), (1, .int 1)] 3 i192_63 m192 (by decide) rfl (by decide) rfl rfl ?_
  refine wGo 4 i192_66 rfl ?_
  refine wLin 5 i192_4 rfl rfl ?_
  refine wKb 7 8 i192_5 (by decide) rfl ?_
  refine wCF 69 10 i192_7 rfl (by decide) rfl ?_
  refine wK 11 0 i192_10 (by decide) rfl ?_
  refine wSi 13 [(4, .int 0), (3, .int 3), (2, .int 0), (0, .ref 77), (1, .int 1)] i192_11 m192 (by decide) rfl rfl ?_
  refine wLi 15 i192_13 rfl rfl ?_
  refine wLan 16 i192_15 rfl rfl ?_
  refine wGet 19 (.ref 78) i192_16 f192_13 rfl rfl rfl ?_
  refine wLin 20 i192_19 rfl rfl ?_
  refine wIal 21 i192_20 rfl (by decide) rfl ?_
  refine tTop (v := 0) rfl ?_
  refine wCT 63 i192_21 rfl (by decide) ?_
  refine wInc 66 [(3, .int 4), (4, .int 0), (2, .int 0), (0, .ref 77), (1, .int 1)] 4 i192_63 m192 (by decide) rfl (by decide) rfl rfl ?_
  refine wGo 4 i192_66 rfl ?_
  refine wLin 5 i192_4 rfl rfl ?_
  refine wKb 7 8 i192_5 (by decide) rfl ?_
  refine wCF 69 10 i192_7 rfl (by decide) rfl ?_
  refine wK 11 0 i192_10 (by decide) rfl ?_
  refine wSi 13 [(4, .int 0), (3, .int 4), (2, .int 0), (0, .ref 77), (1, .int 1)] i192_11 m192 (by decide) rfl rfl ?_
  refine wLi 15 i192_13 rfl rfl ?_
  refine wLan 16 i192_15 rfl rfl ?_
  refine wGet 19 (.ref 78) i192_16 f192_13 rfl rfl rfl ?_
  refine wLin 20 i192_19 rfl rfl ?_
  refine wIal 21 i192_20 rfl (by decide) rfl ?_
  refine tTop (v := 0) rfl ?_
  refine wCT 63 i192_21 rfl (by decide) ?_
  refine wInc 66 [(3, .int 5), (4, .int 0), (2, .int 0), (0, .ref 77), (1, .int 1)] 5 i192_63 m192 (by decide) rfl (by decide) rfl rfl ?_
  refine wGo 4 i192_66 rfl ?_
  refine wLin 5 i192_4 rfl rfl ?_
  refine wKb 7 8 i192_5 (by decide) rfl ?_
  refine wCF 69 10 i192_7 rfl (by decide) rfl ?_
  refine wK 11 0 i192_10 (by decide) rfl ?_
  refine wSi 13 [(4, .int 0), (3, .int 5), (2, .int 0), (0, .ref 77), (1, .int 1)] i192_11 m192 (by decide) rfl rfl ?_
  refine wLi 15 i192_13 rfl rfl ?_
  refine wLan 16 i192_15 rfl rfl ?_
  refine wGet 19 (.ref 78) i192_16 f192_13 rfl rfl rfl ?_
  refine wLin 20 i192_19 rfl rfl ?_
  refine wIal 21 i192_20 rfl (by decide) rfl ?_
  refine tTop (v := 0) rfl ?_
  refine wCT 63 i192_21 rfl (by decide) ?_
  refine wInc 66 [(3, .int 6), (4, .int 0), (2, .int 0), (0, .ref 77), (1, .int 1)] 6 i192_63 m192 (by decide) rfl (by decide) rfl rfl ?_
  refine wGo 4 i192_66 rfl ?_
  refine wLin 5 i192_4 rfl rfl ?_
  refine wKb 7 8 i192_5 (by decide) rfl ?_
  refine wCF 69 10 i192_7 rfl (by decide) rfl ?_
  refine wK 11 0 i192_10 (by decide) rfl ?_
  refine wSi 13 [(4, .int 0), (3, .int 6), (2, .int 0), (0, .ref 77), (1, .int 1)] i192_11 m192 (by decide) rfl rfl ?_
  refine wLi 15 i192_13 rfl rfl ?_
  refine wLan 16 i192_15 rfl rfl ?_
  refine wGet 19 (.ref 78) i192_16 f192_13 rfl rfl rfl ?_
  refine wLin 20 i192_19 rfl rfl ?_
  refine wIal 21 i192_20 rfl (by decide) rfl ?_
  refine tTop (v := 0) rfl ?_
  refine wCT 63 i192_21 rfl (by decide) ?_
  refine wInc 66 [(3, .int 7), (4, .int 0), (2, .int 0), (0, .ref 77), (1, .int 1)] 7 i192_63 m192 (by decide) rfl (by decide) rfl rfl ?_
  refine wGo 4 i192_66 rfl ?_
  refine wLin 5 i192_4 rfl rfl ?_
  refine wKb 7 8 i192_5 (by decide) rfl ?_
  refine wCF 69 10 i192_7 rfl (by decide) rfl ?_
  refine wK 11 0 i192_10 (by decide) rfl ?_
  refine wSi 13 [(4, .int 0), (3, .int 7), (2, .int 0), (0, .ref 77), (1, .int 1)] i192_11 m192 (by decide) rfl rfl ?_
  refine wLi 15 i192_13 rfl rfl ?_
  refine wLan 16 i192_15 rfl rfl ?_
  refine wGet 19 (.ref 78) i192_16 f192_13 rfl rfl rfl ?_
  refine wLin 20 i192_19 rfl rfl ?_
  refine wIal 21 i192_20 rfl (by decide) rfl ?_
  refine tTop (v := 0) rfl ?_
  refine wCT 63 i192_21 rfl (by decide) ?_
  refine wInc 66 [(3, .int 8), (4, .int 0), (2, .int 0), (0, .ref 77), (1, .int 1)] 8 i192_63 m192 (by decide) rfl (by decide) rfl rfl ?_
  refine wGo 4 i192_66 rfl ?_
  refine wLin 5 i192_4 rfl rfl ?_
  refine wKb 7 8 i192_5 (by decide) rfl ?_
  refine wCT 69 i192_7 rfl (by decide) ?_
  refine wLin 70 i192_69 rfl rfl ?_
  refine jRi i192_70 m192 rfl ?_
  refine wA 11 i135_10 rfl rfl rfl ?_
  refine tTop (v := 0) (by decide) ?_
  refine wSin 12 [(1, .int 0), (0, .ref 77)] i135_11 m135 (by decide) rfl rfl ?_
  refine wLan 13 i135_12 rfl rfl ?_
  refine wCallV0 16 [.ref 77] [] i135_13 rfl (xlk0 l135_269) (Or.inl rfl) m195 rfl rfl (Nat.le_of_ble_eq_true rfl) (Nat.le_of_ble_eq_true rfl) (Nat.le_of_ble_eq_true rfl) rfl rfl (m_untells f) ?_
  refine wLin 17 i135_16 rfl rfl ?_
  refine wRi i135_17 m135 rfl ?_
  refine ⟨congrArg (fun z => some (Value.int z)) ?_, rfl⟩
  unfold sp_forget
  repeat' split
  all_goals first | rfl | (exfalso; simp only [Int32.lt_iff_toInt_lt, Int32.le_iff_toInt_le, ← Int32.toInt_inj] at * <;> (simp at * <;> omega))
set_option maxHeartbeats 4000000 in
set_option maxRecDepth 100000 in
theorem r_sum {sc : xS} {d : Nat} (f : Nat → xE) (a1 : Int32) (a2 : Int32) : xT xg sc (d + 12) 185 0 [(0, .ref 77), (1, .int (a1)), (2, .int (a2))] [] (hM f) (fun r => r.1 = some (.long (sp_sum a1 a2)) ∧ r.2.2 = (0, 0)) := by
  refine wLan 1 i185_0 rfl rfl ?_
  refine wLin 2 i185_1 rfl rfl ?_
  refine jCall 5 [.ref 77, .int (a1)] [] [(0, .ref 77), (1, .int (a1))] i185_2 rfl (xlk0 l185_392) (Or.inl rfl) m145 rfl rfl (Nat.le_of_ble_eq_true rfl) (Nat.le_of_ble_eq_true rfl) (Nat.le_of_ble_eq_true rfl) rfl rfl rfl ?_
  refine wLin 1 i145_0 rfl rfl ?_
  refine jCall 4 [.int (a1)] [] [(0, .int (a1))] i145_1 rfl (xlk1 l145_266) (Or.inr (Or.inl rfl)) m153 rfl rfl (Nat.le_of_ble_eq_true rfl) (Nat.le_of_ble_eq_true rfl) (Nat.le_of_ble_eq_true rfl) rfl rfl rfl ?_
  refine wLin 1 i153_0 rfl rfl ?_
  refine wA 2 i153_1 rfl rfl rfl ?_
  refine wKl 3 0 i153_2 (by decide) rfl ?_
  refine wKd 6 7 i153_3 c153_175 rfl ?_
  refine jCall 9 [.long ((a1).toInt64), .long 0, .long 7] [] [(0, .long ((a1).toInt64)), (2, .long 0), (4, .long 7)] i153_6 rfl (xlk1 l153_177) (Or.inr (Or.inl rfl)) m142 rfl rfl (Nat.le_of_ble_eq_true rfl) (Nat.le_of_ble_eq_true rfl) (Nat.le_of_ble_eq_true rfl) rfl rfl rfl ?_
  refine wLln 1 i142_0 rfl rfl ?_
  refine wLln 2 i142_1 rfl rfl ?_
  refine wA 3 i142_2 rfl rfl rfl ?_
  by_cases c1 : (a1) < 0
  ·
    refine wZT 17 i142_3 rfl (decide_eq_true (wl_lt (l := 0) (by decide) c1)) ?_
    refine wK 18 0 i142_17 (by decide) rfl ?_
    refine jRi i142_18 m142 (by decide) ?_
    refine jRi i153_9 m153 (by decide) ?_
    refine wZT 20 i145_4 rfl (by decide) ?_
    refine wK 21 0 i145_20 (by decide) rfl ?_
    refine jRi i145_21 m145 (by decide) ?_
    refine wZT 20 i185_5 rfl (by decide) ?_
    refine wKd 23 (-4611686018427387904) i185_20 c185_285 rfl ?_
    refine wRl i185_23 m185 ?_
    refine ⟨congrArg (fun z => some (Value.long z)) ?_, rfl⟩
    unfold sp_sum
    repeat' split
    all_goals first | rfl | (exfalso; simp only [Int32.lt_iff_toInt_lt, Int32.le_iff_toInt_le, ← Int32.toInt_inj] at * <;> (simp at * <;> omega))
  ·
    refine wZF 17 6 i142_3 rfl (decide_eq_false (wl_nlt (l := 0) (by decide) c1)) rfl ?_
    refine wLln 7 i142_6 rfl rfl ?_
    refine wLl 9 i142_7 rfl rfl ?_
    refine wA 10 i142_9 rfl rfl rfl ?_
    by_cases c2 : 7 < (a1)
    ·
      refine wZT 17 i142_10 rfl (decide_eq_true (wl_gt (l := 7) (by decide) c2)) ?_
      refine wK 18 0 i142_17 (by decide) rfl ?_
      refine jRi i142_18 m142 (by decide) ?_
      refine jRi i153_9 m153 (by decide) ?_
      refine wZT 20 i145_4 rfl (by decide) ?_
      refine wK 21 0 i145_20 (by decide) rfl ?_
      refine jRi i145_21 m145 (by decide) ?_
      refine wZT 20 i185_5 rfl (by decide) ?_
      refine wKd 23 (-4611686018427387904) i185_20 c185_285 rfl ?_
      refine wRl i185_23 m185 ?_
      refine ⟨congrArg (fun z => some (Value.long z)) ?_, rfl⟩
      unfold sp_sum
      repeat' split
      all_goals first | rfl | (exfalso; simp only [Int32.lt_iff_toInt_lt, Int32.le_iff_toInt_le, ← Int32.toInt_inj] at * <;> (simp at * <;> omega))
    ·
      refine wZF 17 13 i142_10 rfl (decide_eq_false (wl_ngt (l := 7) (by decide) c2)) rfl ?_
      refine wK 14 1 i142_13 (by decide) rfl ?_
      refine wGo 18 i142_14 rfl ?_
      refine jRi i142_18 m142 (by decide) ?_
      refine jRi i153_9 m153 (by decide) ?_
      refine wZF 20 7 i145_4 rfl (by decide) rfl ?_
      refine wLan 8 i145_7 rfl rfl ?_
      refine wGet 11 (.ref 78) i145_8 f145_13 rfl rfl rfl ?_
      refine wLin 12 i145_11 rfl rfl ?_
      refine wIal 13 i145_12 rfl (x_ib (Int32.not_lt.mp c1) (Int32.not_lt.mp c2) (by decide) (by decide)) rfl ?_
      refine tTop (v := 0) rfl ?_
      refine wZT 20 i145_13 rfl (by decide) ?_
      refine wK 21 0 i145_20 (by decide) rfl ?_
      refine jRi i145_21 m145 (by decide) ?_
      refine wZT 20 i185_5 rfl (by decide) ?_
      refine wKd 23 (-4611686018427387904) i185_20 c185_285 rfl ?_
      refine wRl i185_23 m185 ?_
      refine ⟨congrArg (fun z => some (Value.long z)) ?_, rfl⟩
      unfold sp_sum
      repeat' split
      all_goals first | rfl | (exfalso; simp only [Int32.lt_iff_toInt_lt, Int32.le_iff_toInt_le, ← Int32.toInt_inj] at * <;> (simp at * <;> omega))
set_option maxHeartbeats 4000000 in
set_option maxRecDepth 100000 in
theorem r_find {sc : xS} {d : Nat} (f : Nat → xE) (a1 : Int32) (a2 : Int64) (a3 : Int32) : xT xg sc (d + 12) 133 0 [(0, .ref 77), (1, .int (a1)), (2, .long (a2)), (4, .int (a3))] [] (hM f) (fun r => r.1 = some (.int (sp_find a1 a2 a3)) ∧ r.2.2 = (0, 0)) := by
  refine wLin 1 i133_0 rfl rfl ?_
  refine jCall 4 [.int (a1)] [] [(0, .int (a1))] i133_1 rfl (xlk1 l133_266) (Or.inr (Or.inl rfl)) m153 rfl rfl (Nat.le_of_ble_eq_true rfl) (Nat.le_of_ble_eq_true rfl) (Nat.le_of_ble_eq_true rfl) rfl rfl rfl ?_
  refine wLin 1 i153_0 rfl rfl ?_
  refine wA 2 i153_1 rfl rfl rfl ?_
  refine wKl 3 0 i153_2 (by decide) rfl ?_
  refine wKd 6 7 i153_3 c153_175 rfl ?_
  refine jCall 9 [.long ((a1).toInt64), .long 0, .long 7] [] [(0, .long ((a1).toInt64)), (2, .long 0), (4, .long 7)] i153_6 rfl (xlk1 l153_177) (Or.inr (Or.inl rfl)) m142 rfl rfl (Nat.le_of_ble_eq_true rfl) (Nat.le_of_ble_eq_true rfl) (Nat.le_of_ble_eq_true rfl) rfl rfl rfl ?_
  refine wLln 1 i142_0 rfl rfl ?_
  refine wLln 2 i142_1 rfl rfl ?_
  refine wA 3 i142_2 rfl rfl rfl ?_
  by_cases c1 : (a1) < 0
  ·
    refine wZT 17 i142_3 rfl (decide_eq_true (wl_lt (l := 0) (by decide) c1)) ?_
    refine wK 18 0 i142_17 (by decide) rfl ?_
    refine jRi i142_18 m142 (by decide) ?_
    refine jRi i153_9 m153 (by decide) ?_
    refine wZT 20 i133_4 rfl (by decide) ?_
    refine wKb 22 (-2) i133_20 (by decide) rfl ?_
    refine wRi i133_22 m133 rfl ?_
    refine ⟨congrArg (fun z => some (Value.int z)) ?_, rfl⟩
    unfold sp_find
    repeat' split
    all_goals first | rfl | (exfalso; simp only [Int32.lt_iff_toInt_lt, Int32.le_iff_toInt_le, ← Int32.toInt_inj] at * <;> (simp at * <;> omega))
  ·
    refine wZF 17 6 i142_3 rfl (decide_eq_false (wl_nlt (l := 0) (by decide) c1)) rfl ?_
    refine wLln 7 i142_6 rfl rfl ?_
    refine wLl 9 i142_7 rfl rfl ?_
    refine wA 10 i142_9 rfl rfl rfl ?_
    by_cases c2 : 7 < (a1)
    ·
      refine wZT 17 i142_10 rfl (decide_eq_true (wl_gt (l := 7) (by decide) c2)) ?_
      refine wK 18 0 i142_17 (by decide) rfl ?_
      refine jRi i142_18 m142 (by decide) ?_
      refine jRi i153_9 m153 (by decide) ?_
      refine wZT 20 i133_4 rfl (by decide) ?_
      refine wKb 22 (-2) i133_20 (by decide) rfl ?_
      refine wRi i133_22 m133 rfl ?_
      refine ⟨congrArg (fun z => some (Value.int z)) ?_, rfl⟩
      unfold sp_find
      repeat' split
      all_goals first | rfl | (exfalso; simp only [Int32.lt_iff_toInt_lt, Int32.le_iff_toInt_le, ← Int32.toInt_inj] at * <;> (simp at * <;> omega))
    ·
      refine wZF 17 13 i142_10 rfl (decide_eq_false (wl_ngt (l := 7) (by decide) c2)) rfl ?_
      refine wK 14 1 i142_13 (by decide) rfl ?_
      refine wGo 18 i142_14 rfl ?_
      refine jRi i142_18 m142 (by decide) ?_
      refine jRi i153_9 m153 (by decide) ?_
      refine wZF 20 7 i133_4 rfl (by decide) rfl ?_
      refine wLi 9 i133_7 rfl rfl ?_
      refine wA 10 i133_9 rfl rfl rfl ?_
      refine wKl 11 0 i133_10 (by decide) rfl ?_
      refine wKd 14 64 i133_11 c133_395 rfl ?_
      refine jCall 17 [.long ((a3).toInt64), .long 0, .long 64] [] [(0, .long ((a3).toInt64)), (2, .long 0), (4, .long 64)] i133_14 rfl (xlk1 l133_177) (Or.inr (Or.inl rfl)) m142 rfl rfl (Nat.le_of_ble_eq_true rfl) (Nat.le_of_ble_eq_true rfl) (Nat.le_of_ble_eq_true rfl) rfl rfl rfl ?_
      refine wLln 1 i142_0 rfl rfl ?_
      refine wLln 2 i142_1 rfl rfl ?_
      refine wA 3 i142_2 rfl rfl rfl ?_
      by_cases c3 : (a3) < 0
      ·
        refine wZT 17 i142_3 rfl (decide_eq_true (wl_lt (l := 0) (by decide) c3)) ?_
        refine wK 18 0 i142_17 (by decide) rfl ?_
        refine jRi i142_18 m142 (by decide) ?_
        refine wZF 23 20 i133_17 rfl (by decide) rfl ?_
        refine wKb 22 (-2) i133_20 (by decide) rfl ?_
        refine wRi i133_22 m133 rfl ?_
        refine ⟨congrArg (fun z => some (Value.int z)) ?_, rfl⟩
        unfold sp_find
        repeat' split
        all_goals first | rfl | (exfalso; simp only [Int32.lt_iff_toInt_lt, Int32.le_iff_toInt_le, ← Int32.toInt_inj] at * <;> (simp at * <;> omega))
      ·
        refine wZF 17 6 i142_3 rfl (decide_eq_false (wl_nlt (l := 0) (by decide) c3)) rfl ?_
        refine wLln 7 i142_6 rfl rfl ?_
        refine wLl 9 i142_7 rfl rfl ?_
        refine wA 10 i142_9 rfl rfl rfl ?_
        by_cases c4 : 64 < (a3)
        ·
          refine wZT 17 i142_10 rfl (decide_eq_true (wl_gt (l := 64) (by decide) c4)) ?_
          refine wK 18 0 i142_17 (by decide) rfl ?_
          refine jRi i142_18 m142 (by decide) ?_
          refine wZF 23 20 i133_17 rfl (by decide) rfl ?_
          refine wKb 22 (-2) i133_20 (by decide) rfl ?_
          refine wRi i133_22 m133 rfl ?_
          refine ⟨congrArg (fun z => some (Value.int z)) ?_, rfl⟩
          unfold sp_find
          repeat' split
          all_goals first | rfl | (exfalso; simp only [Int32.lt_iff_toInt_lt, Int32.le_iff_toInt_le, ← Int32.toInt_inj] at * <;> (simp at * <;> omega))
        ·
          refine wZF 17 13 i142_10 rfl (decide_eq_false (wl_ngt (l := 64) (by decide) c4)) rfl ?_
          refine wK 14 1 i142_13 (by decide) rfl ?_
          refine wGo 18 i142_14 rfl ?_
          refine jRi i142_18 m142 (by decide) ?_
          refine wZT 23 i133_17 rfl (by decide) ?_
          refine wLan 24 i133_23 rfl rfl ?_
          refine wGet 27 (.ref 78) i133_24 f133_13 rfl rfl rfl ?_
          refine wLin 28 i133_27 rfl rfl ?_
          refine wIal 29 i133_28 rfl (x_ib (Int32.not_lt.mp c1) (Int32.not_lt.mp c2) (by decide) (by decide)) rfl ?_
          refine tTop (v := 0) rfl ?_
          refine wZF 35 32 i133_29 rfl (by decide) rfl ?_
          refine wKb 34 (-3) i133_32 (by decide) rfl ?_
          refine wRi i133_34 m133 rfl ?_
          refine ⟨congrArg (fun z => some (Value.int z)) ?_, rfl⟩
          unfold sp_find
          repeat' split
          all_goals first | rfl | (exfalso; simp only [Int32.lt_iff_toInt_lt, Int32.le_iff_toInt_le, ← Int32.toInt_inj] at * <;> (simp at * <;> omega))
set_option maxHeartbeats 4000000 in
set_option maxRecDepth 100000 in
theorem r_differ {sc : xS} {d : Nat} (f : Nat → xE) (a1 : Int32) (a2 : Int32) (a3 : Int32) : xT xg sc (d + 12) 126 0 [(0, .ref 77), (1, .int (a1)), (2, .int (a2)), (3, .int (a3))] [] (hM f) (fun r => r.1 = some (.int (sp_differ a1 a2 a3)) ∧ r.2.2 = (0, 0)) := by
  refine wLin 1 i126_0 rfl rfl ?_
  refine jCall 4 [.int (a1)] [] [(0, .int (a1))] i126_1 rfl (xlk1 l126_266) (Or.inr (Or.inl rfl)) m153 rfl rfl (Nat.le_of_ble_eq_true rfl) (Nat.le_of_ble_eq_true rfl) (Nat.le_of_ble_eq_true rfl) rfl rfl rfl ?_
  refine wLin 1 i153_0 rfl rfl ?_
  refine wA 2 i153_1 rfl rfl rfl ?_
  refine wKl 3 0 i153_2 (by decide) rfl ?_
  refine wKd 6 7 i153_3 c153_175 rfl ?_
  refine jCall 9 [.long ((a1).toInt64), .long 0, .long 7] [] [(0, .long ((a1).toInt64)), (2, .long 0), (4, .long 7)] i153_6 rfl (xlk1 l153_177) (Or.inr (Or.inl rfl)) m142 rfl rfl (Nat.le_of_ble_eq_true rfl) (Nat.le_of_ble_eq_true rfl) (Nat.le_of_ble_eq_true rfl) rfl rfl rfl ?_
  refine wLln 1 i142_0 rfl rfl ?_
  refine wLln 2 i142_1 rfl rfl ?_
  refine wA 3 i142_2 rfl rfl rfl ?_
  by_cases c1 : (a1) < 0
  ·
    refine wZT 17 i142_3 rfl (decide_eq_true (wl_lt (l := 0) (by decide) c1)) ?_
    refine wK 18 0 i142_17 (by decide) rfl ?_
    refine jRi i142_18 m142 (by decide) ?_
    refine jRi i153_9 m153 (by decide) ?_
    refine wZT 26 i126_4 rfl (by decide) ?_
    refine wKb 28 (-2) i126_26 (by decide) rfl ?_
    refine wRi i126_28 m126 rfl ?_
    refine ⟨congrArg (fun z => some (Value.int z)) ?_, rfl⟩
    unfold sp_differ
    repeat' split
    all_goals first | rfl | (exfalso; simp only [Int32.lt_iff_toInt_lt, Int32.le_iff_toInt_le, ← Int32.toInt_inj] at * <;> (simp at * <;> omega))
  ·
    refine wZF 17 6 i142_3 rfl (decide_eq_false (wl_nlt (l := 0) (by decide) c1)) rfl ?_
    refine wLln 7 i142_6 rfl rfl ?_
    refine wLl 9 i142_7 rfl rfl ?_
    refine wA 10 i142_9 rfl rfl rfl ?_
    by_cases c2 : 7 < (a1)
    ·
      refine wZT 17 i142_10 rfl (decide_eq_true (wl_gt (l := 7) (by decide) c2)) ?_
      refine wK 18 0 i142_17 (by decide) rfl ?_
      refine jRi i142_18 m142 (by decide) ?_
      refine jRi i153_9 m153 (by decide) ?_
      refine wZT 26 i126_4 rfl (by decide) ?_
      refine wKb 28 (-2) i126_26 (by decide) rfl ?_
      refine wRi i126_28 m126 rfl ?_
      refine ⟨congrArg (fun z => some (Value.int z)) ?_, rfl⟩
      unfold sp_differ
      repeat' split
      all_goals first | rfl | (exfalso; simp only [Int32.lt_iff_toInt_lt, Int32.le_iff_toInt_le, ← Int32.toInt_inj] at * <;> (simp at * <;> omega))
    ·
      refine wZF 17 13 i142_10 rfl (decide_eq_false (wl_ngt (l := 7) (by decide) c2)) rfl ?_
      refine wK 14 1 i142_13 (by decide) rfl ?_
      refine wGo 18 i142_14 rfl ?_
      refine jRi i142_18 m142 (by decide) ?_
      refine jRi i153_9 m153 (by decide) ?_
      refine wZF 26 7 i126_4 rfl (by decide) rfl ?_
      refine wLin 8 i126_7 rfl rfl ?_
      refine jCall 11 [.int (a2)] [] [(0, .int (a2))] i126_8 rfl (xlk1 l126_266) (Or.inr (Or.inl rfl)) m153 rfl rfl (Nat.le_of_ble_eq_true rfl) (Nat.le_of_ble_eq_true rfl) (Nat.le_of_ble_eq_true rfl) rfl rfl rfl ?_
      refine wLin 1 i153_0 rfl rfl ?_
      refine wA 2 i153_1 rfl rfl rfl ?_
      refine wKl 3 0 i153_2 (by decide) rfl ?_
      refine wKd 6 7 i153_3 c153_175 rfl ?_
      refine jCall 9 [.long ((a2).toInt64), .long 0, .long 7] [] [(0, .long ((a2).toInt64)), (2, .long 0), (4, .long 7)] i153_6 rfl (xlk1 l153_177) (Or.inr (Or.inl rfl)) m142 rfl rfl (Nat.le_of_ble_eq_true rfl) (Nat.le_of_ble_eq_true rfl) (Nat.le_of_ble_eq_true rfl) rfl rfl rfl ?_
      refine wLln 1 i142_0 rfl rfl ?_
      refine wLln 2 i142_1 rfl rfl ?_
      refine wA 3 i142_2 rfl rfl rfl ?_
      by_cases c3 : (a2) < 0
      ·
        refine wZT 17 i142_3 rfl (decide_eq_true (wl_lt (l := 0) (by decide) c3)) ?_
        refine wK 18 0 i142_17 (by decide) rfl ?_
        refine jRi i142_18 m142 (by decide) ?_
        refine jRi i153_9 m153 (by decide) ?_
        refine wZT 26 i126_11 rfl (by decide) ?_
        refine wKb 28 (-2) i126_26 (by decide) rfl ?_
        refine wRi i126_28 m126 rfl ?_
        refine ⟨congrArg (fun z => some (Value.int z)) ?_, rfl⟩
        unfold sp_differ
        repeat' split
        all_goals first | rfl | (exfalso; simp only [Int32.lt_iff_toInt_lt, Int32.le_iff_toInt_le, ← Int32.toInt_inj] at * <;> (simp at * <;> omega))
      ·
        refine wZF 17 6 i142_3 rfl (decide_eq_false (wl_nlt (l := 0) (by decide) c3)) rfl ?_
        refine wLln 7 i142_6 rfl rfl ?_
        refine wLl 9 i142_7 rfl rfl ?_
        refine wA 10 i142_9 rfl rfl rfl ?_
        by_cases c4 : 7 < (a2)
        ·
          refine wZT 17 i142_10 rfl (decide_eq_true (wl_gt (l := 7) (by decide) c4)) ?_
          refine wK 18 0 i142_17 (by decide) rfl ?_
          refine jRi i142_18 m142 (by decide) ?_
          refine jRi i153_9 m153 (by decide) ?_
          refine wZT 26 i126_11 rfl (by decide) ?_
          refine wKb 28 (-2) i126_26 (by decide) rfl ?_
          refine wRi i126_28 m126 rfl ?_
          refine ⟨congrArg (fun z => some (Value.int z)) ?_, rfl⟩
          unfold sp_differ
          repeat' split
          all_goals first | rfl | (exfalso; simp only [Int32.lt_iff_toInt_lt, Int32.le_iff_toInt_le, ← Int32.toInt_inj] at * <;> (simp at * <;> omega))
        ·
          refine wZF 17 13 i142_10 rfl (decide_eq_false (wl_ngt (l := 7) (by decide) c4)) rfl ?_
          refine wK 14 1 i142_13 (by decide) rfl ?_
          refine wGo 18 i142_14 rfl ?_
          refine jRi i142_18 m142 (by decide) ?_
          refine jRi i153_9 m153 (by decide) ?_
          refine wZF 26 14 i126_11 rfl (by decide) rfl ?_
          refine wLin 15 i126_14 rfl rfl ?_
          refine wA 16 i126_15 rfl rfl rfl ?_
          refine wKl 17 0 i126_16 (by decide) rfl ?_
          refine wKd 20 64 i126_17 c126_395 rfl ?_
          refine jCall 23 [.long ((a3).toInt64), .long 0, .long 64] [] [(0, .long ((a3).toInt64)), (2, .long 0), (4, .long 64)] i126_20 rfl (xlk1 l126_177) (Or.inr (Or.inl rfl)) m142 rfl rfl (Nat.le_of_ble_eq_true rfl) (Nat.le_of_ble_eq_true rfl) (Nat.le_of_ble_eq_true rfl) rfl rfl rfl ?_
          refine wLln 1 i142_0 rfl rfl ?_
          refine wLln 2 i142_1 rfl rfl ?_
          refine wA 3 i142_2 rfl rfl rfl ?_
          by_cases c5 : (a3) < 0
          ·
            refine wZT 17 i142_3 rfl (decide_eq_true (wl_lt (l := 0) (by decide) c5)) ?_
            refine wK 18 0 i142_17 (by decide) rfl ?_
            refine jRi i142_18 m142 (by decide) ?_
            refine wZF 29 26 i126_23 rfl (by decide) rfl ?_
            refine wKb 28 (-2) i126_26 (by decide) rfl ?_
            refine wRi i126_28 m126 rfl ?_
            refine ⟨congrArg (fun z => some (Value.int z)) ?_, rfl⟩
            unfold sp_differ
            repeat' split
            all_goals first | rfl | (exfalso; simp only [Int32.lt_iff_toInt_lt, Int32.le_iff_toInt_le, ← Int32.toInt_inj] at * <;> (simp at * <;> omega))
          ·
            refine wZF 17 6 i142_3 rfl (decide_eq_false (wl_nlt (l := 0) (by decide) c5)) rfl ?_
            refine wLln 7 i142_6 rfl rfl ?_
            refine wLl 9 i142_7 rfl rfl ?_
            refine wA 10 i142_9 rfl rfl rfl ?_
            by_cases c6 : 64 < (a3)
            ·
              refine wZT 17 i142_10 rfl (decide_eq_true (wl_gt (l := 64) (by decide) c6)) ?_
              refine wK 18 0 i142_17 (by decide) rfl ?_
              refine jRi i142_18 m142 (by decide) ?_
              refine wZF 29 26 i126_23 rfl (by decide) rfl ?_
              refine wKb 28 (-2) i126_26 (by decide) rfl ?_
              refine wRi i126_28 m126 rfl ?_
              refine ⟨congrArg (fun z => some (Value.int z)) ?_, rfl⟩
              unfold sp_differ
              repeat' split
              all_goals first | rfl | (exfalso; simp only [Int32.lt_iff_toInt_lt, Int32.le_iff_toInt_le, ← Int32.toInt_inj] at * <;> (simp at * <;> omega))
            ·
              refine wZF 17 13 i142_10 rfl (decide_eq_false (wl_ngt (l := 64) (by decide) c6)) rfl ?_
              refine wK 14 1 i142_13 (by decide) rfl ?_
              refine wGo 18 i142_14 rfl ?_
              refine jRi i142_18 m142 (by decide) ?_
              refine wZT 29 i126_23 rfl (by decide) ?_
              refine wLan 30 i126_29 rfl rfl ?_
              refine wGet 33 (.ref 78) i126_30 f126_13 rfl rfl rfl ?_
              refine wLin 34 i126_33 rfl rfl ?_
              refine wIal 35 i126_34 rfl (x_ib (Int32.not_lt.mp c1) (Int32.not_lt.mp c2) (by decide) (by decide)) rfl ?_
              refine tTop (v := 0) rfl ?_
              refine wZT 47 i126_35 rfl (by decide) ?_
              refine wKb 49 (-3) i126_47 (by decide) rfl ?_
              refine wRi i126_49 m126 rfl ?_
              refine ⟨congrArg (fun z => some (Value.int z)) ?_, rfl⟩
              unfold sp_differ
              repeat' split
              all_goals first | rfl | (exfalso; simp only [Int32.lt_iff_toInt_lt, Int32.le_iff_toInt_le, ← Int32.toInt_inj] at * <;> (simp at * <;> omega))
set_option maxHeartbeats 4000000 in
set_option maxRecDepth 100000 in
theorem r_rises {sc : xS} {d : Nat} (f : Nat → xE) (a1 : Int32) : xT xg sc (d + 12) 181 0 [(0, .ref 77), (1, .int (a1))] [] (hM f) (fun r => r.1 = some (.int (sp_rises a1)) ∧ r.2.2 = (0, 0)) := by
  refine wLin 1 i181_0 rfl rfl ?_
  refine jCall 4 [.int (a1)] [] [(0, .int (a1))] i181_1 rfl (xlk1 l181_266) (Or.inr (Or.inl rfl)) m153 rfl rfl (Nat.le_of_ble_eq_true rfl) (Nat.le_of_ble_eq_true rfl) (Nat.le_of_ble_eq_true rfl) rfl rfl rfl ?_
  refine wLin 1 i153_0 rfl rfl ?_
  refine wA 2 i153_1 rfl rfl rfl ?_
  refine wKl 3 0 i153_2 (by decide) rfl ?_
  refine wKd 6 7 i153_3 c153_175 rfl ?_
  refine jCall 9 [.long ((a1).toInt64), .long 0, .long 7] [] [(0, .long ((a1).toInt64)), (2, .long 0), (4, .long 7)] i153_6 rfl (xlk1 l153_177) (Or.inr (Or.inl rfl)) m142 rfl rfl (Nat.le_of_ble_eq_true rfl) (Nat.le_of_ble_eq_true rfl) (Nat.le_of_ble_eq_true rfl) rfl rfl rfl ?_
  refine wLln 1 i142_0 rfl rfl ?_
  refine wLln 2 i142_1 rfl rfl ?_
  refine wA 3 i142_2 rfl rfl rfl ?_
  by_cases c1 : (a1) < 0
  ·
    refine wZT 17 i142_3 rfl (decide_eq_true (wl_lt (l := 0) (by decide) c1)) ?_
    refine wK 18 0 i142_17 (by decide) rfl ?_
    refine jRi i142_18 m142 (by decide) ?_
    refine jRi i153_9 m153 (by decide) ?_
    refine wZF 10 7 i181_4 rfl (by decide) rfl ?_
    refine wKb 9 (-2) i181_7 (by decide) rfl ?_
    refine wRi i181_9 m181 rfl ?_
    refine ⟨congrArg (fun z => some (Value.int z)) ?_, rfl⟩
    unfold sp_rises
    repeat' split
    all_goals first | rfl | (exfalso; simp only [Int32.lt_iff_toInt_lt, Int32.le_iff_toInt_le, ← Int32.toInt_inj] at * <;> (simp at * <;> omega))
  ·
    refine wZF 17 6 i142_3 rfl (decide_eq_false (wl_nlt (l := 0) (by decide) c1)) rfl ?_
    refine wLln 7 i142_6 rfl rfl ?_
    refine wLl 9 i142_7 rfl rfl ?_
    refine wA 10 i142_9 rfl rfl rfl ?_
    by_cases c2 : 7 < (a1)
    ·
      refine wZT 17 i142_10 rfl (decide_eq_true (wl_gt (l := 7) (by decide) c2)) ?_
      refine wK 18 0 i142_17 (by decide) rfl ?_
      refine jRi i142_18 m142 (by decide) ?_
      refine jRi i153_9 m153 (by decide) ?_
      refine wZF 10 7 i181_4 rfl (by decide) rfl ?_
      refine wKb 9 (-2) i181_7 (by decide) rfl ?_
      refine wRi i181_9 m181 rfl ?_
      refine ⟨congrArg (fun z => some (Value.int z)) ?_, rfl⟩
      unfold sp_rises
      repeat' split
      all_goals first | rfl | (exfalso; simp only [Int32.lt_iff_toInt_lt, Int32.le_iff_toInt_le, ← Int32.toInt_inj] at * <;> (simp at * <;> omega))
    ·
      refine wZF 17 13 i142_10 rfl (decide_eq_false (wl_ngt (l := 7) (by decide) c2)) rfl ?_
      refine wK 14 1 i142_13 (by decide) rfl ?_
      refine wGo 18 i142_14 rfl ?_
      refine jRi i142_18 m142 (by decide) ?_
      refine jRi i153_9 m153 (by decide) ?_
      refine wZT 10 i181_4 rfl (by decide) ?_
      refine wLan 11 i181_10 rfl rfl ?_
      refine wGet 14 (.ref 78) i181_11 f181_13 rfl rfl rfl ?_
      refine wLin 15 i181_14 rfl rfl ?_
      refine wIal 16 i181_15 rfl (x_ib (Int32.not_lt.mp c1) (Int32.not_lt.mp c2) (by decide) (by decide)) rfl ?_
      refine tTop (v := 0) rfl ?_
      refine wZF 22 19 i181_16 rfl (by decide) rfl ?_
      refine wKb 21 (-3) i181_19 (by decide) rfl ?_
      refine wRi i181_21 m181 rfl ?_
      refine ⟨congrArg (fun z => some (Value.int z)) ?_, rfl⟩
      unfold sp_rises
      repeat' split
      all_goals first | rfl | (exfalso; simp only [Int32.lt_iff_toInt_lt, Int32.le_iff_toInt_le, ← Int32.toInt_inj] at * <;> (simp at * <;> omega))
