theorem i142_0 : xIns xg 142 0 = some (.lload_n 0) := by decide +kernel
theorem i142_1 : xIns xg 142 1 = some (.lload_n 2) := by decide +kernel
theorem i142_2 : xIns xg 142 2 = some (.lcmp) := by decide +kernel
theorem i142_3 : xIns xg 142 3 = some (.ifCond .lt 14) := by decide +kernel
theorem i142_17 : xIns xg 142 17 = some (.iconst 0) := by decide +kernel
theorem i142_18 : xIns xg 142 18 = some (.ireturn) := by decide +kernel
theorem m142 : (xMet xg 142).2.2 = (6, (some .boolean)) := by decide +kernel
theorem i142_6 : xIns xg 142 6 = some (.lload_n 0) := by decide +kernel
theorem i142_7 : xIns xg 142 7 = some (.lload 4) := by decide +kernel
theorem i142_9 : xIns xg 142 9 = some (.lcmp) := by decide +kernel
theorem i142_10 : xIns xg 142 10 = some (.ifCond .gt 7) := by decide +kernel
theorem i142_13 : xIns xg 142 13 = some (.iconst 1) := by decide +kernel
theorem i142_14 : xIns xg 142 14 = some (.goto 4) := by decide +kernel
def d_x8_in (N : Nat)  (s : St) (a0 : Int) (a1 : Int) (a2 : Int) : Option Rs :=
  (if (w64 a0) < (w64 a1) then some (s, 0) else (if (w64 a2) < (w64 a0) then some (s, 0) else some (s, 1)))
set_option maxHeartbeats 4000000 in
set_option maxRecDepth 100000 in
theorem c_x8_in {sc : xS} {d : Nat} {R : Rs} (N : Nat)  (hd : 0 ≤ d)   (s : St) (a0 : Int) (a1 : Int) (a2 : Int) : d_x8_in N  s a0 a1 a2 = some R → vT sc d 142 0 [(0, vl a0), (2, vl a1), (4, vl a2)] [] s (fun r => r = qI R) := by
  unfold d_x8_in
  refine vLln 1 i142_0 rfl rfl ?_
  refine vLln 2 i142_1 rfl rfl ?_
  refine vLclt 17 3 6 rfl rfl i142_2 rfl i142_3 rfl rfl ?_ ?_
  · refine vK 18 i142_17 rfl ?_
    exact vRi i142_18 m142 (by decide)
  · refine vLln 7 i142_6 rfl rfl ?_
    refine vLl 9 i142_7 rfl rfl ?_
    refine vLcgt 17 10 13 rfl rfl i142_9 rfl i142_10 rfl rfl ?_ ?_
    · refine vK 18 i142_17 rfl ?_
      exact vRi i142_18 m142 (by decide)
    · refine vK 14 i142_13 rfl ?_
      refine vGo 18 i142_14 rfl ?_
      exact vRi i142_18 m142 (by decide)
theorem f131_183 : xFld xg 131 183 = some (7, 19) := by decide +kernel
theorem f131_67 : xFld xg 131 67 = some (7, 18) := by decide +kernel
theorem i131_0 : xIns xg 131 0 = some (.iload_n 1) := by decide +kernel
theorem i131_1 : xIns xg 131 1 = some (.i2l) := by decide +kernel
theorem i131_2 : xIns xg 131 2 = some (.lconst 0) := by decide +kernel
theorem i131_3 : xIns xg 131 3 = some (.ldc2_w 181) := by decide +kernel
theorem c131_181 : xCon xg 131 181 = some (vl (255)) := by decide +kernel
theorem i131_6 : xIns xg 131 6 = some (.invokestatic 177) := by decide +kernel
theorem i131_9 : xIns xg 131 9 = some (.ifCond .ne 6) := by decide +kernel
theorem i131_15 : xIns xg 131 15 = some (.aload_n 0) := by decide +kernel
theorem i131_16 : xIns xg 131 16 = some (.getfield 183) := by decide +kernel
theorem i131_19 : xIns xg 131 19 = some (.bipush 120) := by decide +kernel
theorem i131_21 : xIns xg 131 21 = some (.if_icmp .ne 6) := by decide +kernel
theorem i131_27 : xIns xg 131 27 = some (.aload_n 0) := by decide +kernel
theorem i131_28 : xIns xg 131 28 = some (.getfield 67) := by decide +kernel
theorem i131_31 : xIns xg 131 31 = some (.aload_n 0) := by decide +kernel
theorem i131_32 : xIns xg 131 32 = some (.getfield 183) := by decide +kernel
theorem i131_35 : xIns xg 131 35 = some (.iload_n 1) := by decide +kernel
theorem i131_36 : xIns xg 131 36 = some (.iastore) := by decide +kernel
theorem i131_37 : xIns xg 131 37 = some (.aload_n 0) := by decide +kernel
theorem i131_38 : xIns xg 131 38 = some (.dup) := by decide +kernel
theorem i131_39 : xIns xg 131 39 = some (.getfield 183) := by decide +kernel
theorem i131_42 : xIns xg 131 42 = some (.iconst 1) := by decide +kernel
theorem i131_43 : xIns xg 131 43 = some (.iadd) := by decide +kernel
theorem i131_44 : xIns xg 131 44 = some (.putfield 183) := by decide +kernel
theorem p131_183 : xPut xg 131 183 = some (7, 19, .int) := by decide +kernel
theorem i131_47 : xIns xg 131 47 = some (.aload_n 0) := by decide +kernel
theorem i131_48 : xIns xg 131 48 = some (.getfield 183) := by decide +kernel
theorem i131_51 : xIns xg 131 51 = some (.ireturn) := by decide +kernel
theorem m131 : (xMet xg 131).2.2 = (2, (some .int)) := by decide +kernel
theorem i131_24 : xIns xg 131 24 = some (.bipush (-4)) := by decide +kernel
theorem i131_26 : xIns xg 131 26 = some (.ireturn) := by decide +kernel
theorem i131_12 : xIns xg 131 12 = some (.bipush (-2)) := by decide +kernel
theorem i131_14 : xIns xg 131 14 = some (.ireturn) := by decide +kernel
def d_x8_feed (N : Nat)  (s : St) (a0 : Int) : Option Rs :=
  bI (d_x8_in N  s (w32 a0) 0 255) fun s1 v2 => (if (w32 v2) = 0 then some (s1, (-2)) else (if (w32 (s1 77 19)) = 120 then some (s1, (-4)) else if 0 ≤ (w32 (s1 77 19)) ∧ (w32 (s1 77 19)) < ((120 : Nat) : Int) then bd (up s1 94 (Int.toNat (w32 (s1 77 19))) a0) fun s3 => bd (up s3 77 19 ((s3 77 19) + 1)) fun s4 => some (s4, (s4 77 19)) else none))
set_option maxHeartbeats 4000000 in
set_option maxRecDepth 100000 in
theorem c_x8_feed {sc : xS} {d : Nat} {R : Rs} (N : Nat)  (hd : 1 ≤ d)   (s : St) (a0 : Int) : d_x8_feed N  s a0 = some R → vT sc d 131 0 [(0, .ref 77), (1, vi a0)] [] s (fun r => r = qI R) := by
  obtain ⟨d, rfl⟩ : ∃ d', d = d' + 1 := ⟨d - 1, by omega⟩
  unfold d_x8_feed
  refine vLin 1 i131_0 rfl rfl ?_
  refine vI2l 2 i131_1 rfl ?_
  refine vKl 3 0 i131_2 (by decide) rfl ?_
  refine vKd 6 i131_3 c131_181 rfl ?_
  refine vCallI 9 [vl (w32 a0), vl 0, vl 255] [] [(0, vl (w32 a0)), (2, vl 0), (4, vl 255)] i131_6 rfl (xlk1 l131_177) (Or.inr (Or.inl rfl)) m142 rfl rfl (Nat.le_of_ble_eq_true rfl) (Nat.le_of_ble_eq_true rfl) (Nat.le_of_ble_eq_true rfl) rfl rfl rfl (fun R1 => c_x8_in N   (by omega) s (w32 a0) 0 255) (fun s1 v2 => ?_)
  refine vZne 15 12 rfl i131_9 rfl rfl ?_ ?_
  · refine vLan 16 i131_15 rfl rfl ?_
    refine vGet 19 i131_16 f131_183 sh_77 rfl rfl ?_
    refine vKb 21 i131_19 (by decide) rfl ?_
    refine vCne 27 24 rfl (show w32 120 = 120 from rfl) i131_21 rfl rfl ?_ ?_
    · refine vLan 28 i131_27 rfl rfl ?_
      refine vGetC 31 i131_28 f131_67 sh_77 rfl rfl ?_
      refine vLan 32 i131_31 rfl rfl ?_
      refine vGet 35 i131_32 f131_183 sh_77 rfl rfl ?_
      refine vLin 36 i131_35 rfl rfl ?_
      refine vIas 37 rfl i131_36 sh_94 rfl (fun s3 => ?_)
      refine vLan 38 i131_37 rfl rfl ?_
      refine vD 39 i131_38 rfl rfl rfl ?_
      refine vGet 42 i131_39 f131_183 sh_77 rfl rfl ?_
      refine vK 43 i131_42 rfl ?_
      refine vIadd 44 i131_43 rfl ?_
      refine vPut 47 i131_44 p131_183 sh_77 rfl rfl (fun s4 => ?_)
      refine vLan 48 i131_47 rfl rfl ?_
      refine vGet 51 i131_48 f131_183 sh_77 rfl rfl ?_
      exact vRi i131_51 m131 rfl
    · refine vKb 26 i131_24 (by decide) rfl ?_
      exact vRi i131_26 m131 rfl
  · refine vKb 14 i131_12 (by decide) rfl ?_
    exact vRi i131_14 m131 rfl
theorem f130_218 : xFld xg 130 218 = some (7, 24) := by decide +kernel
theorem f130_193 : xFld xg 130 193 = some (7, 22) := by decide +kernel
theorem i130_0 : xIns xg 130 0 = some (.aload_n 0) := by decide +kernel
theorem i130_1 : xIns xg 130 1 = some (.getfield 218) := by decide +kernel
theorem i130_4 : xIns xg 130 4 = some (.ifCond .ne 16) := by decide +kernel
theorem i130_20 : xIns xg 130 20 = some (.return_) := by decide +kernel
theorem m130 : (xMet xg 130).2.2 = (1, none) := by decide +kernel
theorem i130_7 : xIns xg 130 7 = some (.aload_n 0) := by decide +kernel
theorem i130_8 : xIns xg 130 8 = some (.iconst 1) := by decide +kernel
theorem i130_9 : xIns xg 130 9 = some (.putfield 218) := by decide +kernel
theorem p130_218 : xPut xg 130 218 = some (7, 24, .boolean) := by decide +kernel
theorem i130_12 : xIns xg 130 12 = some (.aload_n 0) := by decide +kernel
theorem i130_13 : xIns xg 130 13 = some (.aload_n 0) := by decide +kernel
theorem i130_14 : xIns xg 130 14 = some (.getfield 193) := by decide +kernel
theorem i130_17 : xIns xg 130 17 = some (.putfield 222) := by decide +kernel
theorem p130_222 : xPut xg 130 222 = some (7, 25, .int) := by decide +kernel
def d_x8_fail (N : Nat)  (s : St)  : Option Rs :=
  (if (w32 (s 77 24)) = 0 then bd (up s 77 24 1) fun s1 => bd (up s1 77 25 (s1 77 22)) fun s2 => some (s2, 0) else some (s, 0))
set_option maxHeartbeats 4000000 in
set_option maxRecDepth 100000 in
theorem c_x8_fail {sc : xS} {d : Nat} {R : Rs} (N : Nat)  (hd : 0 ≤ d)   (s : St)  : d_x8_fail N  s  = some R → vT sc d 130 0 [(0, .ref 77)] [] s (fun r => r = qV R) := by
  unfold d_x8_fail
  refine vLan 1 i130_0 rfl rfl ?_
  refine vGet 4 i130_1 f130_218 sh_77 rfl rfl ?_
  refine vZne 20 7 rfl i130_4 rfl rfl ?_ ?_
  · exact vR0 i130_20 m130
  · refine vLan 8 i130_7 rfl rfl ?_
    refine vK 9 i130_8 rfl ?_
    refine vPutZ0 12 (Or.inr rfl) i130_9 p130_218 sh_77 rfl rfl (fun s1 => ?_)
    refine vLan 13 i130_12 rfl rfl ?_
    refine vLan 14 i130_13 rfl rfl ?_
    refine vGet 17 i130_14 f130_193 sh_77 rfl rfl ?_
    refine vPut 20 i130_17 p130_222 sh_77 rfl rfl (fun s2 => ?_)
    exact vR0 i130_20 m130
theorem i153_0 : xIns xg 153 0 = some (.iload_n 0) := by decide +kernel
theorem i153_1 : xIns xg 153 1 = some (.i2l) := by decide +kernel
theorem i153_2 : xIns xg 153 2 = some (.lconst 0) := by decide +kernel
theorem i153_3 : xIns xg 153 3 = some (.ldc2_w 175) := by decide +kernel
theorem c153_175 : xCon xg 153 175 = some (vl (7)) := by decide +kernel
theorem i153_6 : xIns xg 153 6 = some (.invokestatic 177) := by decide +kernel
theorem i153_9 : xIns xg 153 9 = some (.ireturn) := by decide +kernel
theorem m153 : (xMet xg 153).2.2 = (1, (some .boolean)) := by decide +kernel
def d_x8_isStream (N : Nat)  (s : St) (a0 : Int) : Option Rs :=
  bI (d_x8_in N  s (w32 a0) 0 7) fun s1 v2 => (if v2 = 0 ∨ v2 = 1 then some (s1, v2) else none)
set_option maxHeartbeats 4000000 in
set_option maxRecDepth 100000 in
theorem c_x8_isStream {sc : xS} {d : Nat} {R : Rs} (N : Nat)  (hd : 1 ≤ d)   (s : St) (a0 : Int) : d_x8_isStream N  s a0 = some R → vT sc d 153 0 [(0, vi a0)] [] s (fun r => r = qI R) := by
  obtain ⟨d, rfl⟩ : ∃ d', d = d' + 1 := ⟨d - 1, by omega⟩
  unfold d_x8_isStream
  refine vLin 1 i153_0 rfl rfl ?_
  refine vI2l 2 i153_1 rfl ?_
  refine vKl 3 0 i153_2 (by decide) rfl ?_
  refine vKd 6 i153_3 c153_175 rfl ?_
  refine vCallI 9 [vl (w32 a0), vl 0, vl 7] [] [(0, vl (w32 a0)), (2, vl 0), (4, vl 7)] i153_6 rfl (xlk1 l153_177) (Or.inr (Or.inl rfl)) m142 rfl rfl (Nat.le_of_ble_eq_true rfl) (Nat.le_of_ble_eq_true rfl) (Nat.le_of_ble_eq_true rfl) rfl rfl rfl (fun R1 => c_x8_in N   (by omega) s (w32 a0) 0 7) (fun s1 v2 => ?_)
  exact vRz i153_9 m153
theorem f122_183 : xFld xg 122 183 = some (7, 19) := by decide +kernel
theorem f122_67 : xFld xg 122 67 = some (7, 18) := by decide +kernel
theorem i122_0 : xIns xg 122 0 = some (.iload_n 1) := by decide +kernel
theorem i122_1 : xIns xg 122 1 = some (.aload_n 0) := by decide +kernel
theorem i122_2 : xIns xg 122 2 = some (.getfield 183) := by decide +kernel
theorem i122_5 : xIns xg 122 5 = some (.if_icmp .ge 12) := by decide +kernel
theorem i122_17 : xIns xg 122 17 = some (.iconst (-1)) := by decide +kernel
theorem i122_18 : xIns xg 122 18 = some (.ireturn) := by decide +kernel
theorem m122 : (xMet xg 122).2.2 = (2, (some .int)) := by decide +kernel
theorem i122_8 : xIns xg 122 8 = some (.aload_n 0) := by decide +kernel
theorem i122_9 : xIns xg 122 9 = some (.getfield 67) := by decide +kernel
theorem i122_12 : xIns xg 122 12 = some (.iload_n 1) := by decide +kernel
theorem i122_13 : xIns xg 122 13 = some (.iaload) := by decide +kernel
theorem i122_14 : xIns xg 122 14 = some (.goto 4) := by decide +kernel
def d_x8_byteAt (N : Nat)  (s : St) (a0 : Int) : Option Rs :=
  (if (w32 a0) < (w32 (s 77 19)) then if 0 ≤ (w32 a0) ∧ (w32 a0) < ((120 : Nat) : Int) then some (s, (s 94 (Int.toNat (w32 a0)))) else none else some (s, (-1)))
set_option maxHeartbeats 4000000 in
set_option maxRecDepth 100000 in
theorem c_x8_byteAt {sc : xS} {d : Nat} {R : Rs} (N : Nat)  (hd : 0 ≤ d)   (s : St) (a0 : Int) : d_x8_byteAt N  s a0 = some R → vT sc d 122 0 [(0, .ref 77), (1, vi a0)] [] s (fun r => r = qI R) := by
  unfold d_x8_byteAt
  refine vLin 1 i122_0 rfl rfl ?_
  refine vLan 2 i122_1 rfl rfl ?_
  refine vGet 5 i122_2 f122_183 sh_77 rfl rfl ?_
  refine vCge 17 8 rfl rfl i122_5 rfl rfl ?_ ?_
  · refine vK 18 i122_17 rfl ?_
    exact vRi i122_18 m122 rfl
  · refine vLan 9 i122_8 rfl rfl ?_
    refine vGetC 12 i122_9 f122_67 sh_77 rfl rfl ?_
    refine vLin 13 i122_12 rfl rfl ?_
    refine vIal 14 rfl i122_13 sh_94 rfl ?_
    refine vGo 18 i122_14 rfl ?_
    exact vRi i122_18 m122 rfl
theorem i151_54 : xIns xg 151 54 = some (.iconst 1) := by decide +kernel
theorem i151_55 : xIns xg 151 55 = some (.goto 4) := by decide +kernel
theorem i151_59 : xIns xg 151 59 = some (.ireturn) := by decide +kernel
theorem m151 : (xMet xg 151).2.2 = (1, (some .boolean)) := by decide +kernel
theorem i151_0 : xIns xg 151 0 = some (.iload_n 0) := by decide +kernel
theorem i151_1 : xIns xg 151 1 = some (.bipush 43) := by decide +kernel
theorem i151_3 : xIns xg 151 3 = some (.if_icmp .eq 51) := by decide +kernel
theorem i151_6 : xIns xg 151 6 = some (.iload_n 0) := by decide +kernel
theorem i151_7 : xIns xg 151 7 = some (.bipush 45) := by decide +kernel
theorem i151_9 : xIns xg 151 9 = some (.if_icmp .eq 45) := by decide +kernel
theorem i151_12 : xIns xg 151 12 = some (.iload_n 0) := by decide +kernel
theorem i151_13 : xIns xg 151 13 = some (.bipush 42) := by decide +kernel
theorem i151_15 : xIns xg 151 15 = some (.if_icmp .eq 39) := by decide +kernel
theorem i151_18 : xIns xg 151 18 = some (.iload_n 0) := by decide +kernel
theorem i151_19 : xIns xg 151 19 = some (.bipush 47) := by decide +kernel
theorem i151_21 : xIns xg 151 21 = some (.if_icmp .eq 33) := by decide +kernel
theorem i151_24 : xIns xg 151 24 = some (.iload_n 0) := by decide +kernel
theorem i151_25 : xIns xg 151 25 = some (.bipush 37) := by decide +kernel
theorem i151_27 : xIns xg 151 27 = some (.if_icmp .eq 27) := by decide +kernel
theorem i151_30 : xIns xg 151 30 = some (.iload_n 0) := by decide +kernel
theorem i151_31 : xIns xg 151 31 = some (.bipush 60) := by decide +kernel
theorem i151_33 : xIns xg 151 33 = some (.if_icmp .eq 21) := by decide +kernel
theorem i151_36 : xIns xg 151 36 = some (.iload_n 0) := by decide +kernel
theorem i151_37 : xIns xg 151 37 = some (.bipush 62) := by decide +kernel
theorem i151_39 : xIns xg 151 39 = some (.if_icmp .eq 15) := by decide +kernel
theorem i151_42 : xIns xg 151 42 = some (.iload_n 0) := by decide +kernel
theorem i151_43 : xIns xg 151 43 = some (.bipush 61) := by decide +kernel
theorem i151_45 : xIns xg 151 45 = some (.if_icmp .eq 9) := by decide +kernel
theorem i151_48 : xIns xg 151 48 = some (.iload_n 0) := by decide +kernel
theorem i151_49 : xIns xg 151 49 = some (.bipush 44) := by decide +kernel
theorem i151_51 : xIns xg 151 51 = some (.if_icmp .ne 7) := by decide +kernel
theorem i151_58 : xIns xg 151 58 = some (.iconst 0) := by decide +kernel
def d_x8_isSignByte_54 (N : Nat)  (s : St)  : Option Rs :=
  some (s, 1)
set_option maxHeartbeats 4000000 in
set_option maxRecDepth 100000 in
theorem c_x8_isSignByte_54 {sc : xS} {d : Nat} {R : Rs} (N : Nat)  (hd : 0 ≤ d)   (s : St)  : d_x8_isSignByte_54 N  s  = some R → vT sc d 151 54 [] [] s (fun r => r = qI R) := by
  unfold d_x8_isSignByte_54
  refine vK 55 i151_54 rfl ?_
  refine vGo 59 i151_55 rfl ?_
  exact vRi i151_59 m151 (by decide)
def d_x8_isSignByte (N : Nat)  (s : St) (a0 : Int) : Option Rs :=
  (if (w32 a0) = 43 then d_x8_isSignByte_54 N  s  else (if (w32 a0) = 45 then d_x8_isSignByte_54 N  s  else (if (w32 a0) = 42 then d_x8_isSignByte_54 N  s  else (if (w32 a0) = 47 then d_x8_isSignByte_54 N  s  else (if (w32 a0) = 37 then d_x8_isSignByte_54 N  s  else (if (w32 a0) = 60 then d_x8_isSignByte_54 N  s  else (if (w32 a0) = 62 then d_x8_isSignByte_54 N  s  else (if (w32 a0) = 61 then d_x8_isSignByte_54 N  s  else (if (w32 a0) = 44 then d_x8_isSignByte_54 N  s  else some (s, 0))))))))))
set_option maxHeartbeats 4000000 in
set_option maxRecDepth 100000 in
theorem c_x8_isSignByte {sc : xS} {d : Nat} {R : Rs} (N : Nat)  (hd : 0 ≤ d)   (s : St) (a0 : Int) : d_x8_isSignByte N  s a0 = some R → vT sc d 151 0 [(0, vi a0)] [] s (fun r => r = qI R) := by
  unfold d_x8_isSignByte
  refine vLin 1 i151_0 rfl rfl ?_
  refine vKb 3 i151_1 (by decide) rfl ?_
  refine vCeq 54 6 rfl (show w32 43 = 43 from rfl) i151_3 rfl rfl ?_ ?_
  · exact fun hD => tLc [] (xNdk [] rfl (by decide)) (xNdk [0] rfl (by decide)) trivial (c_x8_isSignByte_54 N  hd  s  hD)
  · refine vLin 7 i151_6 rfl rfl ?_
    refine vKb 9 i151_7 (by decide) rfl ?_
    refine vCeq 54 12 rfl (show w32 45 = 45 from rfl) i151_9 rfl rfl ?_ ?_
    · exact fun hD => tLc [] (xNdk [] rfl (by decide)) (xNdk [0] rfl (by decide)) trivial (c_x8_isSignByte_54 N  hd  s  hD)
    · refine vLin 13 i151_12 rfl rfl ?_
      refine vKb 15 i151_13 (by decide) rfl ?_
      refine vCeq 54 18 rfl (show w32 42 = 42 from rfl) i151_15 rfl rfl ?_ ?_
      · exact fun hD => tLc [] (xNdk [] rfl (by decide)) (xNdk [0] rfl (by decide)) trivial (c_x8_isSignByte_54 N  hd  s  hD)
      · refine vLin 19 i151_18 rfl rfl ?_
        refine vKb 21 i151_19 (by decide) rfl ?_
        refine vCeq 54 24 rfl (show w32 47 = 47 from rfl) i151_21 rfl rfl ?_ ?_
        · exact fun hD => tLc [] (xNdk [] rfl (by decide)) (xNdk [0] rfl (by decide)) trivial (c_x8_isSignByte_54 N  hd  s  hD)
        · refine vLin 25 i151_24 rfl rfl ?_
          refine vKb 27 i151_25 (by decide) rfl ?_
          refine vCeq 54 30 rfl (show w32 37 = 37 from rfl) i151_27 rfl rfl ?_ ?_
          · exact fun hD => tLc [] (xNdk [] rfl (by decide)) (xNdk [0] rfl (by decide)) trivial (c_x8_isSignByte_54 N  hd  s  hD)
          · refine vLin 31 i151_30 rfl rfl ?_
            refine vKb 33 i151_31 (by decide) rfl ?_
            refine vCeq 54 36 rfl (show w32 60 = 60 from rfl) i151_33 rfl rfl ?_ ?_
            · exact fun hD => tLc [] (xNdk [] rfl (by decide)) (xNdk [0] rfl (by decide)) trivial (c_x8_isSignByte_54 N  hd  s  hD)
            · refine vLin 37 i151_36 rfl rfl ?_
              refine vKb 39 i151_37 (by decide) rfl ?_
              refine vCeq 54 42 rfl (show w32 62 = 62 from rfl) i151_39 rfl rfl ?_ ?_
              · exact fun hD => tLc [] (xNdk [] rfl (by decide)) (xNdk [0] rfl (by decide)) trivial (c_x8_isSignByte_54 N  hd  s  hD)
              · refine vLin 43 i151_42 rfl rfl ?_
                refine vKb 45 i151_43 (by decide) rfl ?_
                refine vCeq 54 48 rfl (show w32 61 = 61 from rfl) i151_45 rfl rfl ?_ ?_
                · exact fun hD => tLc [] (xNdk [] rfl (by decide)) (xNdk [0] rfl (by decide)) trivial (c_x8_isSignByte_54 N  hd  s  hD)
                · refine vLin 49 i151_48 rfl rfl ?_
                  refine vKb 51 i151_49 (by decide) rfl ?_
                  refine vCne 58 54 rfl (show w32 44 = 44 from rfl) i151_51 rfl rfl ?_ ?_
                  · refine vK 59 i151_58 rfl ?_
                    exact vRi i151_59 m151 (by decide)
                  · exact fun hD => tLc [] (xNdk [] rfl (by decide)) (xNdk [0] rfl (by decide)) trivial (c_x8_isSignByte_54 N  hd  s  hD)
theorem f146_193 : xFld xg 146 193 = some (7, 22) := by decide +kernel
theorem f146_186 : xFld xg 146 186 = some (7, 20) := by decide +kernel
theorem i146_0 : xIns xg 146 0 = some (.aload_n 0) := by decide +kernel
theorem i146_1 : xIns xg 146 1 = some (.getfield 193) := by decide +kernel
theorem i146_4 : xIns xg 146 4 = some (.iload_n 1) := by decide +kernel
theorem i146_5 : xIns xg 146 5 = some (.iadd) := by decide +kernel
theorem i146_6 : xIns xg 146 6 = some (.aload_n 0) := by decide +kernel
theorem i146_7 : xIns xg 146 7 = some (.getfield 186) := by decide +kernel
theorem i146_10 : xIns xg 146 10 = some (.if_icmp .ge 25) := by decide +kernel
theorem i146_35 : xIns xg 146 35 = some (.iload_n 2) := by decide +kernel
theorem i146_36 : xIns xg 146 36 = some (.ifCond .ne 7) := by decide +kernel
theorem i146_43 : xIns xg 146 43 = some (.iconst 0) := by decide +kernel
theorem i146_44 : xIns xg 146 44 = some (.ireturn) := by decide +kernel
theorem m146 : (xMet xg 146).2.2 = (3, (some .boolean)) := by decide +kernel
theorem i146_39 : xIns xg 146 39 = some (.iconst 1) := by decide +kernel
theorem i146_40 : xIns xg 146 40 = some (.goto 4) := by decide +kernel
theorem i146_13 : xIns xg 146 13 = some (.aload_n 0) := by decide +kernel
theorem i146_14 : xIns xg 146 14 = some (.aload_n 0) := by decide +kernel
theorem i146_15 : xIns xg 146 15 = some (.getfield 193) := by decide +kernel
theorem i146_18 : xIns xg 146 18 = some (.iload_n 1) := by decide +kernel
theorem i146_19 : xIns xg 146 19 = some (.iadd) := by decide +kernel
theorem i146_20 : xIns xg 146 20 = some (.invokevirtual 189) := by decide +kernel
theorem i146_23 : xIns xg 146 23 = some (.iload_n 2) := by decide +kernel
theorem i146_24 : xIns xg 146 24 = some (.if_icmp .ne 7) := by decide +kernel
theorem i146_31 : xIns xg 146 31 = some (.iconst 0) := by decide +kernel
theorem i146_32 : xIns xg 146 32 = some (.goto 12) := by decide +kernel
theorem i146_27 : xIns xg 146 27 = some (.iconst 1) := by decide +kernel
theorem i146_28 : xIns xg 146 28 = some (.goto 16) := by decide +kernel
def d_x8_isLetter (N : Nat)  (s : St) (a0 : Int) (a1 : Int) : Option Rs :=
  (if (w32 ((s 77 22) + a0)) < (w32 (s 77 20)) then bI (d_x8_byteAt N  s ((s 77 22) + a0)) fun s1 v2 => (if (w32 v2) = (w32 a1) then some (s1, 1) else some (s1, 0)) else (if (w32 a1) = 0 then some (s, 1) else some (s, 0)))
set_option maxHeartbeats 4000000 in
set_option maxRecDepth 100000 in
theorem c_x8_isLetter {sc : xS} {d : Nat} {R : Rs} (N : Nat)  (hd : 1 ≤ d)   (s : St) (a0 : Int) (a1 : Int) : d_x8_isLetter N  s a0 a1 = some R → vT sc d 146 0 [(0, .ref 77), (1, vi a0), (2, vi a1)] [] s (fun r => r = qI R) := by
  obtain ⟨d, rfl⟩ : ∃ d', d = d' + 1 := ⟨d - 1, by omega⟩
  unfold d_x8_isLetter
  refine vLan 1 i146_0 rfl rfl ?_
  refine vGet 4 i146_1 f146_193 sh_77 rfl rfl ?_
  refine vLin 5 i146_4 rfl rfl ?_
  refine vIadd 6 i146_5 rfl ?_
  refine vLan 7 i146_6 rfl rfl ?_
  refine vGet 10 i146_7 f146_186 sh_77 rfl rfl ?_
  refine vCge 35 13 rfl rfl i146_10 rfl rfl ?_ ?_
  · refine vLin 36 i146_35 rfl rfl ?_
    refine vZne 43 39 rfl i146_36 rfl rfl ?_ ?_
    · refine vK 44 i146_43 rfl ?_
      exact vRi i146_44 m146 (by decide)
    · refine vK 40 i146_39 rfl ?_
      refine vGo 44 i146_40 rfl ?_
      exact vRi i146_44 m146 (by decide)
  · refine vLan 14 i146_13 rfl rfl ?_
    refine vLan 15 i146_14 rfl rfl ?_
    refine vGet 18 i146_15 f146_193 sh_77 rfl rfl ?_
    refine vLin 19 i146_18 rfl rfl ?_
    refine vIadd 20 i146_19 rfl ?_
    refine vCallI 23 [.ref 77, vi ((s 77 22) + a0)] [] [(0, .ref 77), (1, vi ((s 77 22) + a0))] i146_20 rfl (xlk0 l146_189) (Or.inl rfl) m122 rfl rfl (Nat.le_of_ble_eq_true rfl) (Nat.le_of_ble_eq_true rfl) (Nat.le_of_ble_eq_true rfl) (xh0 sh_77 (by decide)) rfl rfl (fun R1 => c_x8_byteAt N   (by omega) s ((s 77 22) + a0)) (fun s1 v2 => ?_)
    refine vLin 24 i146_23 rfl rfl ?_
    refine vCne 31 27 rfl rfl i146_24 rfl rfl ?_ ?_
    · refine vK 32 i146_31 rfl ?_
      refine vGo 44 i146_32 rfl ?_
      exact vRi i146_44 m146 (by decide)
    · refine vK 28 i146_27 rfl ?_
      refine vGo 44 i146_28 rfl ?_
      exact vRi i146_44 m146 (by decide)
theorem f154_186 : xFld xg 154 186 = some (7, 20) := by decide +kernel
theorem f154_193 : xFld xg 154 193 = some (7, 22) := by decide +kernel
theorem i154_0 : xIns xg 154 0 = some (.aload_n 0) := by decide +kernel
theorem i154_1 : xIns xg 154 1 = some (.getfield 186) := by decide +kernel
theorem i154_4 : xIns xg 154 4 = some (.aload_n 0) := by decide +kernel
theorem i154_5 : xIns xg 154 5 = some (.getfield 193) := by decide +kernel
theorem i154_8 : xIns xg 154 8 = some (.iconst 5) := by decide +kernel
theorem i154_9 : xIns xg 154 9 = some (.iadd) := by decide +kernel
theorem i154_10 : xIns xg 154 10 = some (.if_icmp .gt 54) := by decide +kernel
theorem i154_64 : xIns xg 154 64 = some (.iconst 0) := by decide +kernel
theorem i154_65 : xIns xg 154 65 = some (.ireturn) := by decide +kernel
theorem m154 : (xMet xg 154).2.2 = (6, (some .boolean)) := by decide +kernel
theorem i154_13 : xIns xg 154 13 = some (.aload_n 0) := by decide +kernel
theorem i154_14 : xIns xg 154 14 = some (.iconst 0) := by decide +kernel
theorem i154_15 : xIns xg 154 15 = some (.iload_n 1) := by decide +kernel
theorem i154_16 : xIns xg 154 16 = some (.invokevirtual 225) := by decide +kernel
theorem i154_19 : xIns xg 154 19 = some (.ifCond .eq 45) := by decide +kernel
theorem i154_22 : xIns xg 154 22 = some (.aload_n 0) := by decide +kernel
theorem i154_23 : xIns xg 154 23 = some (.iconst 1) := by decide +kernel
theorem i154_24 : xIns xg 154 24 = some (.iload_n 2) := by decide +kernel
theorem i154_25 : xIns xg 154 25 = some (.invokevirtual 225) := by decide +kernel
theorem i154_28 : xIns xg 154 28 = some (.ifCond .eq 36) := by decide +kernel
theorem i154_31 : xIns xg 154 31 = some (.aload_n 0) := by decide +kernel
theorem i154_32 : xIns xg 154 32 = some (.iconst 2) := by decide +kernel
theorem i154_33 : xIns xg 154 33 = some (.iload_n 3) := by decide +kernel
theorem i154_34 : xIns xg 154 34 = some (.invokevirtual 225) := by decide +kernel
theorem i154_37 : xIns xg 154 37 = some (.ifCond .eq 27) := by decide +kernel
theorem i154_40 : xIns xg 154 40 = some (.aload_n 0) := by decide +kernel
theorem i154_41 : xIns xg 154 41 = some (.iconst 3) := by decide +kernel
theorem i154_42 : xIns xg 154 42 = some (.iload 4) := by decide +kernel
theorem i154_44 : xIns xg 154 44 = some (.invokevirtual 225) := by decide +kernel
theorem i154_47 : xIns xg 154 47 = some (.ifCond .eq 17) := by decide +kernel
theorem i154_50 : xIns xg 154 50 = some (.aload_n 0) := by decide +kernel
theorem i154_51 : xIns xg 154 51 = some (.iconst 4) := by decide +kernel
theorem i154_52 : xIns xg 154 52 = some (.iload 5) := by decide +kernel
theorem i154_54 : xIns xg 154 54 = some (.invokevirtual 225) := by decide +kernel
theorem i154_57 : xIns xg 154 57 = some (.ifCond .eq 7) := by decide +kernel
theorem i154_60 : xIns xg 154 60 = some (.iconst 1) := by decide +kernel
theorem i154_61 : xIns xg 154 61 = some (.goto 4) := by decide +kernel
def d_x8_isWord (N : Nat)  (s : St) (a0 : Int) (a1 : Int) (a2 : Int) (a3 : Int) (a4 : Int) : Option Rs :=
  (if (w32 ((s 77 22) + 5)) < (w32 (s 77 20)) then some (s, 0) else bI (d_x8_isLetter N  s 0 a0) fun s1 v2 => (if (w32 v2) = 0 then some (s1, 0) else bI (d_x8_isLetter N  s1 1 a1) fun s3 v4 => (if (w32 v4) = 0 then some (s3, 0) else bI (d_x8_isLetter N  s3 2 a2) fun s5 v6 => (if (w32 v6) = 0 then some (s5, 0) else bI (d_x8_isLetter N  s5 3 a3) fun s7 v8 => (if (w32 v8) = 0 then some (s7, 0) else bI (d_x8_isLetter N  s7 4 a4) fun s9 v10 => (if (w32 v10) = 0 then some (s9, 0) else some (s9, 1)))))))
set_option maxHeartbeats 4000000 in
set_option maxRecDepth 100000 in
theorem c_x8_isWord {sc : xS} {d : Nat} {R : Rs} (N : Nat)  (hd : 2 ≤ d)   (s : St) (a0 : Int) (a1 : Int) (a2 : Int) (a3 : Int) (a4 : Int) : d_x8_isWord N  s a0 a1 a2 a3 a4 = some R → vT sc d 154 0 [(0, .ref 77), (1, vi a0), (2, vi a1), (3, vi a2), (4, vi a3), (5, vi a4)] [] s (fun r => r = qI R) := by
  obtain ⟨d, rfl⟩ : ∃ d', d = d' + 1 := ⟨d - 1, by omega⟩
  unfold d_x8_isWord
  refine vLan 1 i154_0 rfl rfl ?_
  refine vGet 4 i154_1 f154_186 sh_77 rfl rfl ?_
  refine vLan 5 i154_4 rfl rfl ?_
  refine vGet 8 i154_5 f154_193 sh_77 rfl rfl ?_
  refine vK 9 i154_8 rfl ?_
  refine vIadd 10 i154_9 rfl ?_
  refine vCgt 64 13 rfl rfl i154_10 rfl rfl ?_ ?_
  · refine vK 65 i154_64 rfl ?_
    exact vRi i154_65 m154 (by decide)
  · refine vLan 14 i154_13 rfl rfl ?_
    refine vK 15 i154_14 rfl ?_
    refine vLin 16 i154_15 rfl rfl ?_
    refine vCallI 19 [.ref 77, vi 0, vi a0] [] [(0, .ref 77), (1, vi 0), (2, vi a0)] i154_16 rfl (xlk0 l154_225) (Or.inl rfl) m146 rfl rfl (Nat.le_of_ble_eq_true rfl) (Nat.le_of_ble_eq_true rfl) (Nat.le_of_ble_eq_true rfl) (xh0 sh_77 (by decide)) rfl rfl (fun R1 => c_x8_isLetter N   (by omega) s 0 a0) (fun s1 v2 => ?_)
    refine vZeq 64 22 rfl i154_19 rfl rfl ?_ ?_
    · refine vK 65 i154_64 rfl ?_
      exact vRi i154_65 m154 (by decide)
    · refine vLan 23 i154_22 rfl rfl ?_
      refine vK 24 i154_23 rfl ?_
      refine vLin 25 i154_24 rfl rfl ?_
      refine vCallI 28 [.ref 77, vi 1, vi a1] [] [(0, .ref 77), (1, vi 1), (2, vi a1)] i154_25 rfl (xlk0 l154_225) (Or.inl rfl) m146 rfl rfl (Nat.le_of_ble_eq_true rfl) (Nat.le_of_ble_eq_true rfl) (Nat.le_of_ble_eq_true rfl) (xh0 sh_77 (by decide)) rfl rfl (fun R1 => c_x8_isLetter N   (by omega) s1 1 a1) (fun s3 v4 => ?_)
      refine vZeq 64 31 rfl i154_28 rfl rfl ?_ ?_
      · refine vK 65 i154_64 rfl ?_
        exact vRi i154_65 m154 (by decide)
      · refine vLan 32 i154_31 rfl rfl ?_
        refine vK 33 i154_32 rfl ?_
        refine vLin 34 i154_33 rfl rfl ?_
        refine vCallI 37 [.ref 77, vi 2, vi a2] [] [(0, .ref 77), (1, vi 2), (2, vi a2)] i154_34 rfl (xlk0 l154_225) (Or.inl rfl) m146 rfl rfl (Nat.le_of_ble_eq_true rfl) (Nat.le_of_ble_eq_true rfl) (Nat.le_of_ble_eq_true rfl) (xh0 sh_77 (by decide)) rfl rfl (fun R1 => c_x8_isLetter N   (by omega) s3 2 a2) (fun s5 v6 => ?_)
        refine vZeq 64 40 rfl i154_37 rfl rfl ?_ ?_
        · refine vK 65 i154_64 rfl ?_
          exact vRi i154_65 m154 (by decide)
        · refine vLan 41 i154_40 rfl rfl ?_
          refine vK 42 i154_41 rfl ?_
          refine vLi 44 i154_42 rfl rfl ?_
          refine vCallI 47 [.ref 77, vi 3, vi a3] [] [(0, .ref 77), (1, vi 3), (2, vi a3)] i154_44 rfl (xlk0 l154_225) (Or.inl rfl) m146 rfl rfl (Nat.le_of_ble_eq_true rfl) (Nat.le_of_ble_eq_true rfl) (Nat.le_of_ble_eq_true rfl) (xh0 sh_77 (by decide)) rfl rfl (fun R1 => c_x8_isLetter N   (by omega) s5 3 a3) (fun s7 v8 => ?_)
          refine vZeq 64 50 rfl i154_47 rfl rfl ?_ ?_
          · refine vK 65 i154_64 rfl ?_
            exact vRi i154_65 m154 (by decide)
          · refine vLan 51 i154_50 rfl rfl ?_
            refine vK 52 i154_51 rfl ?_
            refine vLi 54 i154_52 rfl rfl ?_
            refine vCallI 57 [.ref 77, vi 4, vi a4] [] [(0, .ref 77), (1, vi 4), (2, vi a4)] i154_54 rfl (xlk0 l154_225) (Or.inl rfl) m146 rfl rfl (Nat.le_of_ble_eq_true rfl) (Nat.le_of_ble_eq_true rfl) (Nat.le_of_ble_eq_true rfl) (xh0 sh_77 (by decide)) rfl rfl (fun R1 => c_x8_isLetter N   (by omega) s7 4 a4) (fun s9 v10 => ?_)
            refine vZeq 64 60 rfl i154_57 rfl rfl ?_ ?_
            · refine vK 65 i154_64 rfl ?_
              exact vRi i154_65 m154 (by decide)
            · refine vK 61 i154_60 rfl ?_
              refine vGo 65 i154_61 rfl ?_
              exact vRi i154_65 m154 (by decide)
theorem f158_186 : xFld xg 158 186 = some (7, 20) := by decide +kernel
theorem f158_193 : xFld xg 158 193 = some (7, 22) := by decide +kernel
theorem i158_36 : xIns xg 158 36 = some (.aload_n 0) := by decide +kernel
theorem i158_37 : xIns xg 158 37 = some (.bipush 102) := by decide +kernel
theorem i158_39 : xIns xg 158 39 = some (.bipush 114) := by decide +kernel
theorem i158_41 : xIns xg 158 41 = some (.bipush 111) := by decide +kernel
theorem i158_43 : xIns xg 158 43 = some (.bipush 109) := by decide +kernel
theorem i158_45 : xIns xg 158 45 = some (.iconst 0) := by decide +kernel
theorem i158_46 : xIns xg 158 46 = some (.invokevirtual 231) := by decide +kernel
theorem i158_49 : xIns xg 158 49 = some (.ifCond .eq 5) := by decide +kernel
theorem i158_54 : xIns xg 158 54 = some (.aload_n 0) := by decide +kernel
theorem i158_55 : xIns xg 158 55 = some (.bipush 108) := by decide +kernel
theorem i158_57 : xIns xg 158 57 = some (.bipush 105) := by decide +kernel
theorem i158_59 : xIns xg 158 59 = some (.bipush 115) := by decide +kernel
theorem i158_61 : xIns xg 158 61 = some (.bipush 116) := by decide +kernel
theorem i158_63 : xIns xg 158 63 = some (.iconst 0) := by decide +kernel
theorem i158_64 : xIns xg 158 64 = some (.invokevirtual 231) := by decide +kernel
theorem i158_67 : xIns xg 158 67 = some (.ifCond .eq 5) := by decide +kernel
theorem i158_72 : xIns xg 158 72 = some (.aload_n 0) := by decide +kernel
theorem i158_73 : xIns xg 158 73 = some (.bipush 109) := by decide +kernel
theorem i158_75 : xIns xg 158 75 = some (.bipush 97) := by decide +kernel
theorem i158_77 : xIns xg 158 77 = some (.bipush 112) := by decide +kernel
theorem i158_79 : xIns xg 158 79 = some (.iconst 0) := by decide +kernel
theorem i158_80 : xIns xg 158 80 = some (.iconst 0) := by decide +kernel
theorem i158_81 : xIns xg 158 81 = some (.invokevirtual 231) := by decide +kernel
theorem i158_84 : xIns xg 158 84 = some (.ifCond .eq 5) := by decide +kernel
theorem i158_89 : xIns xg 158 89 = some (.aload_n 0) := by decide +kernel
theorem i158_90 : xIns xg 158 90 = some (.bipush 107) := by decide +kernel
theorem i158_92 : xIns xg 158 92 = some (.bipush 101) := by decide +kernel
theorem i158_94 : xIns xg 158 94 = some (.bipush 101) := by decide +kernel
theorem i158_96 : xIns xg 158 96 = some (.bipush 112) := by decide +kernel
theorem i158_98 : xIns xg 158 98 = some (.iconst 0) := by decide +kernel
theorem i158_99 : xIns xg 158 99 = some (.invokevirtual 231) := by decide +kernel
theorem i158_102 : xIns xg 158 102 = some (.ifCond .eq 5) := by decide +kernel
theorem i158_107 : xIns xg 158 107 = some (.aload_n 0) := by decide +kernel
theorem i158_108 : xIns xg 158 108 = some (.bipush 119) := by decide +kernel
theorem i158_110 : xIns xg 158 110 = some (.bipush 104) := by decide +kernel
theorem i158_112 : xIns xg 158 112 = some (.bipush 105) := by decide +kernel
theorem i158_114 : xIns xg 158 114 = some (.bipush 108) := by decide +kernel
theorem i158_116 : xIns xg 158 116 = some (.bipush 101) := by decide +kernel
theorem i158_118 : xIns xg 158 118 = some (.invokevirtual 231) := by decide +kernel
theorem i158_121 : xIns xg 158 121 = some (.ifCond .eq 5) := by decide +kernel
theorem i158_126 : xIns xg 158 126 = some (.aload_n 0) := by decide +kernel
theorem i158_127 : xIns xg 158 127 = some (.bipush 122) := by decide +kernel
theorem i158_129 : xIns xg 158 129 = some (.bipush 105) := by decide +kernel
theorem i158_131 : xIns xg 158 131 = some (.bipush 112) := by decide +kernel
theorem i158_133 : xIns xg 158 133 = some (.iconst 0) := by decide +kernel
theorem i158_134 : xIns xg 158 134 = some (.iconst 0) := by decide +kernel
theorem i158_135 : xIns xg 158 135 = some (.invokevirtual 231) := by decide +kernel
theorem i158_138 : xIns xg 158 138 = some (.ifCond .eq 6) := by decide +kernel
theorem i158_144 : xIns xg 158 144 = some (.aload_n 0) := by decide +kernel
theorem i158_145 : xIns xg 158 145 = some (.bipush 109) := by decide +kernel
theorem i158_147 : xIns xg 158 147 = some (.bipush 101) := by decide +kernel
theorem i158_149 : xIns xg 158 149 = some (.bipush 114) := by decide +kernel
theorem i158_151 : xIns xg 158 151 = some (.bipush 103) := by decide +kernel
theorem i158_153 : xIns xg 158 153 = some (.bipush 101) := by decide +kernel
theorem i158_155 : xIns xg 158 155 = some (.invokevirtual 231) := by decide +kernel
theorem i158_158 : xIns xg 158 158 = some (.ifCond .eq 6) := by decide +kernel
theorem i158_164 : xIns xg 158 164 = some (.aload_n 0) := by decide +kernel
theorem i158_165 : xIns xg 158 165 = some (.bipush 116) := by decide +kernel
theorem i158_167 : xIns xg 158 167 = some (.bipush 97) := by decide +kernel
theorem i158_169 : xIns xg 158 169 = some (.bipush 107) := by decide +kernel
theorem i158_171 : xIns xg 158 171 = some (.bipush 101) := by decide +kernel
theorem i158_173 : xIns xg 158 173 = some (.iconst 0) := by decide +kernel
theorem i158_174 : xIns xg 158 174 = some (.invokevirtual 231) := by decide +kernel
theorem i158_177 : xIns xg 158 177 = some (.ifCond .eq 6) := by decide +kernel
theorem i158_183 : xIns xg 158 183 = some (.aload_n 0) := by decide +kernel
theorem i158_184 : xIns xg 158 184 = some (.bipush 100) := by decide +kernel
theorem i158_186 : xIns xg 158 186 = some (.bipush 114) := by decide +kernel
theorem i158_188 : xIns xg 158 188 = some (.bipush 111) := by decide +kernel
theorem i158_190 : xIns xg 158 190 = some (.bipush 112) := by decide +kernel
theorem i158_192 : xIns xg 158 192 = some (.iconst 0) := by decide +kernel
theorem i158_193 : xIns xg 158 193 = some (.invokevirtual 231) := by decide +kernel
theorem i158_196 : xIns xg 158 196 = some (.ifCond .eq 6) := by decide +kernel
theorem i158_202 : xIns xg 158 202 = some (.aload_n 0) := by decide +kernel
theorem i158_203 : xIns xg 158 203 = some (.bipush 115) := by decide +kernel
theorem i158_205 : xIns xg 158 205 = some (.bipush 99) := by decide +kernel
theorem i158_207 : xIns xg 158 207 = some (.bipush 97) := by decide +kernel
theorem i158_209 : xIns xg 158 209 = some (.bipush 110) := by decide +kernel
theorem i158_211 : xIns xg 158 211 = some (.iconst 0) := by decide +kernel
theorem i158_212 : xIns xg 158 212 = some (.invokevirtual 231) := by decide +kernel
theorem i158_215 : xIns xg 158 215 = some (.ifCond .eq 6) := by decide +kernel
theorem i158_221 : xIns xg 158 221 = some (.aload_n 0) := by decide +kernel
theorem i158_222 : xIns xg 158 222 = some (.bipush 115) := by decide +kernel
theorem i158_224 : xIns xg 158 224 = some (.bipush 105) := by decide +kernel
theorem i158_226 : xIns xg 158 226 = some (.bipush 101) := by decide +kernel
theorem i158_228 : xIns xg 158 228 = some (.bipush 118) := by decide +kernel
theorem i158_230 : xIns xg 158 230 = some (.bipush 101) := by decide +kernel
theorem i158_232 : xIns xg 158 232 = some (.invokevirtual 231) := by decide +kernel
theorem i158_235 : xIns xg 158 235 = some (.ifCond .eq 6) := by decide +kernel
theorem i158_241 : xIns xg 158 241 = some (.aload_n 0) := by decide +kernel
theorem i158_242 : xIns xg 158 242 = some (.bipush 99) := by decide +kernel
theorem i158_244 : xIns xg 158 244 = some (.bipush 111) := by decide +kernel
theorem i158_246 : xIns xg 158 246 = some (.bipush 110) := by decide +kernel
theorem i158_248 : xIns xg 158 248 = some (.bipush 115) := by decide +kernel
theorem i158_250 : xIns xg 158 250 = some (.iconst 0) := by decide +kernel
theorem i158_251 : xIns xg 158 251 = some (.invokevirtual 231) := by decide +kernel
theorem i158_254 : xIns xg 158 254 = some (.ifCond .eq 6) := by decide +kernel
theorem i158_260 : xIns xg 158 260 = some (.aload_n 0) := by decide +kernel
theorem i158_261 : xIns xg 158 261 = some (.bipush 99) := by decide +kernel
theorem i158_263 : xIns xg 158 263 = some (.bipush 117) := by decide +kernel
theorem i158_265 : xIns xg 158 265 = some (.bipush 116) := by decide +kernel
theorem i158_267 : xIns xg 158 267 = some (.iconst 0) := by decide +kernel
theorem i158_268 : xIns xg 158 268 = some (.iconst 0) := by decide +kernel
theorem i158_269 : xIns xg 158 269 = some (.invokevirtual 231) := by decide +kernel
theorem i158_272 : xIns xg 158 272 = some (.ifCond .eq 8) := by decide +kernel
theorem i158_280 : xIns xg 158 280 = some (.iconst (-1)) := by decide +kernel
theorem i158_281 : xIns xg 158 281 = some (.ireturn) := by decide +kernel
theorem m158 : (xMet xg 158).2.2 = (1, (some .int)) := by decide +kernel
theorem i158_275 : xIns xg 158 275 = some (.bipush 13) := by decide +kernel
theorem i158_277 : xIns xg 158 277 = some (.goto 4) := by decide +kernel
theorem i158_257 : xIns xg 158 257 = some (.bipush 12) := by decide +kernel
theorem i158_259 : xIns xg 158 259 = some (.ireturn) := by decide +kernel
theorem i158_238 : xIns xg 158 238 = some (.bipush 11) := by decide +kernel
theorem i158_240 : xIns xg 158 240 = some (.ireturn) := by decide +kernel
theorem i158_218 : xIns xg 158 218 = some (.bipush 10) := by decide +kernel
theorem i158_220 : xIns xg 158 220 = some (.ireturn) := by decide +kernel
theorem i158_199 : xIns xg 158 199 = some (.bipush 9) := by decide +kernel
theorem i158_201 : xIns xg 158 201 = some (.ireturn) := by decide +kernel
theorem i158_180 : xIns xg 158 180 = some (.bipush 8) := by decide +kernel
theorem i158_182 : xIns xg 158 182 = some (.ireturn) := by decide +kernel
theorem i158_161 : xIns xg 158 161 = some (.bipush 7) := by decide +kernel
theorem i158_163 : xIns xg 158 163 = some (.ireturn) := by decide +kernel
theorem i158_141 : xIns xg 158 141 = some (.bipush 6) := by decide +kernel
theorem i158_143 : xIns xg 158 143 = some (.ireturn) := by decide +kernel
theorem i158_124 : xIns xg 158 124 = some (.iconst 5) := by decide +kernel
theorem i158_125 : xIns xg 158 125 = some (.ireturn) := by decide +kernel
theorem i158_105 : xIns xg 158 105 = some (.iconst 4) := by decide +kernel
theorem i158_106 : xIns xg 158 106 = some (.ireturn) := by decide +kernel
theorem i158_87 : xIns xg 158 87 = some (.iconst 3) := by decide +kernel
theorem i158_88 : xIns xg 158 88 = some (.ireturn) := by decide +kernel
theorem i158_70 : xIns xg 158 70 = some (.iconst 2) := by decide +kernel
theorem i158_71 : xIns xg 158 71 = some (.ireturn) := by decide +kernel
theorem i158_52 : xIns xg 158 52 = some (.iconst 1) := by decide +kernel
theorem i158_53 : xIns xg 158 53 = some (.ireturn) := by decide +kernel
theorem i158_0 : xIns xg 158 0 = some (.aload_n 0) := by decide +kernel
theorem i158_1 : xIns xg 158 1 = some (.getfield 186) := by decide +kernel
theorem i158_4 : xIns xg 158 4 = some (.aload_n 0) := by decide +kernel
theorem i158_5 : xIns xg 158 5 = some (.getfield 193) := by decide +kernel
theorem i158_8 : xIns xg 158 8 = some (.iconst 1) := by decide +kernel
theorem i158_9 : xIns xg 158 9 = some (.iadd) := by decide +kernel
theorem i158_10 : xIns xg 158 10 = some (.if_icmp .ne 26) := by decide +kernel
theorem i158_13 : xIns xg 158 13 = some (.aload_n 0) := by decide +kernel
theorem i158_14 : xIns xg 158 14 = some (.aload_n 0) := by decide +kernel
theorem i158_15 : xIns xg 158 15 = some (.getfield 193) := by decide +kernel
theorem i158_18 : xIns xg 158 18 = some (.invokevirtual 189) := by decide +kernel
theorem i158_21 : xIns xg 158 21 = some (.i2l) := by decide +kernel
theorem i158_22 : xIns xg 158 22 = some (.ldc2_w 199) := by decide +kernel
theorem c158_199 : xCon xg 158 199 = some (vl (97)) := by decide +kernel
theorem i158_25 : xIns xg 158 25 = some (.ldc2_w 229) := by decide +kernel
theorem c158_229 : xCon xg 158 229 = some (vl (104)) := by decide +kernel
theorem i158_28 : xIns xg 158 28 = some (.invokestatic 177) := by decide +kernel
theorem i158_31 : xIns xg 158 31 = some (.ifCond .eq 5) := by decide +kernel
theorem i158_34 : xIns xg 158 34 = some (.iconst 0) := by decide +kernel
theorem i158_35 : xIns xg 158 35 = some (.ireturn) := by decide +kernel
def d_x8_kindOf_36 (N : Nat)  (s : St)  : Option Rs :=
  bI (d_x8_isWord N  s 102 114 111 109 0) fun s1 v2 => (if (w32 v2) = 0 then bI (d_x8_isWord N  s1 108 105 115 116 0) fun s3 v4 => (if (w32 v4) = 0 then bI (d_x8_isWord N  s3 109 97 112 0 0) fun s5 v6 => (if (w32 v6) = 0 then bI (d_x8_isWord N  s5 107 101 101 112 0) fun s7 v8 => (if (w32 v8) = 0 then bI (d_x8_isWord N  s7 119 104 105 108 101) fun s9 v10 => (if (w32 v10) = 0 then bI (d_x8_isWord N  s9 122 105 112 0 0) fun s11 v12 => (if (w32 v12) = 0 then bI (d_x8_isWord N  s11 109 101 114 103 101) fun s13 v14 => (if (w32 v14) = 0 then bI (d_x8_isWord N  s13 116 97 107 101 0) fun s15 v16 => (if (w32 v16) = 0 then bI (d_x8_isWord N  s15 100 114 111 112 0) fun s17 v18 => (if (w32 v18) = 0 then bI (d_x8_isWord N  s17 115 99 97 110 0) fun s19 v20 => (if (w32 v20) = 0 then bI (d_x8_isWord N  s19 115 105 101 118 101) fun s21 v22 => (if (w32 v22) = 0 then bI (d_x8_isWord N  s21 99 111 110 115 0) fun s23 v24 => (if (w32 v24) = 0 then bI (d_x8_isWord N  s23 99 117 116 0 0) fun s25 v26 => (if (w32 v26) = 0 then some (s25, (-1)) else some (s25, 13)) else some (s23, 12)) else some (s21, 11)) else some (s19, 10)) else some (s17, 9)) else some (s15, 8)) else some (s13, 7)) else some (s11, 6)) else some (s9, 5)) else some (s7, 4)) else some (s5, 3)) else some (s3, 2)) else some (s1, 1))
set_option maxHeartbeats 4000000 in
set_option maxRecDepth 100000 in
theorem c_x8_kindOf_36 {sc : xS} {d : Nat} {R : Rs} (N : Nat)  (hd : 3 ≤ d)   (s : St)  : d_x8_kindOf_36 N  s  = some R → vT sc d 158 36 [(0, .ref 77)] [] s (fun r => r = qI R) := by
  obtain ⟨d, rfl⟩ : ∃ d', d = d' + 1 := ⟨d - 1, by omega⟩
  unfold d_x8_kindOf_36
  refine vLan 37 i158_36 rfl rfl ?_
  refine vKb 39 i158_37 (by decide) rfl ?_
  refine vKb 41 i158_39 (by decide) rfl ?_
  refine vKb 43 i158_41 (by decide) rfl ?_
  refine vKb 45 i158_43 (by decide) rfl ?_
  refine vK 46 i158_45 rfl ?_
  refine vCallI 49 [.ref 77, vi 102, vi 114, vi 111, vi 109, vi 0] [] [(0, .ref 77), (1, vi 102), (2, vi 114), (3, vi 111), (4, vi 109), (5, vi 0)] i158_46 rfl (xlk0 l158_231) (Or.inl rfl) m154 rfl rfl (Nat.le_of_ble_eq_true rfl) (Nat.le_of_ble_eq_true rfl) (Nat.le_of_ble_eq_true rfl) (xh0 sh_77 (by decide)) rfl rfl (fun R1 => c_x8_isWord N   (by omega) s 102 114 111 109 0) (fun s1 v2 => ?_)
  refine vZeq 54 52 rfl i158_49 rfl rfl ?_ ?_
  · refine vLan 55 i158_54 rfl rfl ?_
    refine vKb 57 i158_55 (by decide) rfl ?_
    refine vKb 59 i158_57 (by decide) rfl ?_
    refine vKb 61 i158_59 (by decide) rfl ?_
    refine vKb 63 i158_61 (by decide) rfl ?_
    refine vK 64 i158_63 rfl ?_
    refine vCallI 67 [.ref 77, vi 108, vi 105, vi 115, vi 116, vi 0] [] [(0, .ref 77), (1, vi 108), (2, vi 105), (3, vi 115), (4, vi 116), (5, vi 0)] i158_64 rfl (xlk0 l158_231) (Or.inl rfl) m154 rfl rfl (Nat.le_of_ble_eq_true rfl) (Nat.le_of_ble_eq_true rfl) (Nat.le_of_ble_eq_true rfl) (xh0 sh_77 (by decide)) rfl rfl (fun R1 => c_x8_isWord N   (by omega) s1 108 105 115 116 0) (fun s3 v4 => ?_)
    refine vZeq 72 70 rfl i158_67 rfl rfl ?_ ?_
    · refine vLan 73 i158_72 rfl rfl ?_
      refine vKb 75 i158_73 (by decide) rfl ?_
      refine vKb 77 i158_75 (by decide) rfl ?_
      refine vKb 79 i158_77 (by decide) rfl ?_
      refine vK 80 i158_79 rfl ?_
      refine vK 81 i158_80 rfl ?_
      refine vCallI 84 [.ref 77, vi 109, vi 97, vi 112, vi 0, vi 0] [] [(0, .ref 77), (1, vi 109), (2, vi 97), (3, vi 112), (4, vi 0), (5, vi 0)] i158_81 rfl (xlk0 l158_231) (Or.inl rfl) m154 rfl rfl (Nat.le_of_ble_eq_true rfl) (Nat.le_of_ble_eq_true rfl) (Nat.le_of_ble_eq_true rfl) (xh0 sh_77 (by decide)) rfl rfl (fun R1 => c_x8_isWord N   (by omega) s3 109 97 112 0 0) (fun s5 v6 => ?_)
      refine vZeq 89 87 rfl i158_84 rfl rfl ?_ ?_
      · refine vLan 90 i158_89 rfl rfl ?_
        refine vKb 92 i158_90 (by decide) rfl ?_
        refine vKb 94 i158_92 (by decide) rfl ?_
        refine vKb 96 i158_94 (by decide) rfl ?_
        refine vKb 98 i158_96 (by decide) rfl ?_
        refine vK 99 i158_98 rfl ?_
        refine vCallI 102 [.ref 77, vi 107, vi 101, vi 101, vi 112, vi 0] [] [(0, .ref 77), (1, vi 107), (2, vi 101), (3, vi 101), (4, vi 112), (5, vi 0)] i158_99 rfl (xlk0 l158_231) (Or.inl rfl) m154 rfl rfl (Nat.le_of_ble_eq_true rfl) (Nat.le_of_ble_eq_true rfl) (Nat.le_of_ble_eq_true rfl) (xh0 sh_77 (by decide)) rfl rfl (fun R1 => c_x8_isWord N   (by omega) s5 107 101 101 112 0) (fun s7 v8 => ?_)
        refine vZeq 107 105 rfl i158_102 rfl rfl ?_ ?_
        · refine vLan 108 i158_107 rfl rfl ?_
          refine vKb 110 i158_108 (by decide) rfl ?_
          refine vKb 112 i158_110 (by decide) rfl ?_
          refine vKb 114 i158_112 (by decide) rfl ?_
          refine vKb 116 i158_114 (by decide) rfl ?_
          refine vKb 118 i158_116 (by decide) rfl ?_
          refine vCallI 121 [.ref 77, vi 119, vi 104, vi 105, vi 108, vi 101] [] [(0, .ref 77), (1, vi 119), (2, vi 104), (3, vi 105), (4, vi 108), (5, vi 101)] i158_118 rfl (xlk0 l158_231) (Or.inl rfl) m154 rfl rfl (Nat.le_of_ble_eq_true rfl) (Nat.le_of_ble_eq_true rfl) (Nat.le_of_ble_eq_true rfl) (xh0 sh_77 (by decide)) rfl rfl (fun R1 => c_x8_isWord N   (by omega) s7 119 104 105 108 101) (fun s9 v10 => ?_)
          refine vZeq 126 124 rfl i158_121 rfl rfl ?_ ?_
          · refine vLan 127 i158_126 rfl rfl ?_
            refine vKb 129 i158_127 (by decide) rfl ?_
            refine vKb 131 i158_129 (by decide) rfl ?_
            refine vKb 133 i158_131 (by decide) rfl ?_
            refine vK 134 i158_133 rfl ?_
            refine vK 135 i158_134 rfl ?_
            refine vCallI 138 [.ref 77, vi 122, vi 105, vi 112, vi 0, vi 0] [] [(0, .ref 77), (1, vi 122), (2, vi 105), (3, vi 112), (4, vi 0), (5, vi 0)] i158_135 rfl (xlk0 l158_231) (Or.inl rfl) m154 rfl rfl (Nat.le_of_ble_eq_true rfl) (Nat.le_of_ble_eq_true rfl) (Nat.le_of_ble_eq_true rfl) (xh0 sh_77 (by decide)) rfl rfl (fun R1 => c_x8_isWord N   (by omega) s9 122 105 112 0 0) (fun s11 v12 => ?_)
            refine vZeq 144 141 rfl i158_138 rfl rfl ?_ ?_
            · refine vLan 145 i158_144 rfl rfl ?_
              refine vKb 147 i158_145 (by decide) rfl ?_
              refine vKb 149 i158_147 (by decide) rfl ?_
              refine vKb 151 i158_149 (by decide) rfl ?_
              refine vKb 153 i158_151 (by decide) rfl ?_
              refine vKb 155 i158_153 (by decide) rfl ?_
              refine vCallI 158 [.ref 77, vi 109, vi 101, vi 114, vi 103, vi 101] [] [(0, .ref 77), (1, vi 109), (2, vi 101), (3, vi 114), (4, vi 103), (5, vi 101)] i158_155 rfl (xlk0 l158_231) (Or.inl rfl) m154 rfl rfl (Nat.le_of_ble_eq_true rfl) (Nat.le_of_ble_eq_true rfl) (Nat.le_of_ble_eq_true rfl) (xh0 sh_77 (by decide)) rfl rfl (fun R1 => c_x8_isWord N   (by omega) s11 109 101 114 103 101) (fun s13 v14 => ?_)
              refine vZeq 164 161 rfl i158_158 rfl rfl ?_ ?_
              · refine vLan 165 i158_164 rfl rfl ?_
                refine vKb 167 i158_165 (by decide) rfl ?_
                refine vKb 169 i158_167 (by decide) rfl ?_
                refine vKb 171 i158_169 (by decide) rfl ?_
                refine vKb 173 i158_171 (by decide) rfl ?_
                refine vK 174 i158_173 rfl ?_
                refine vCallI 177 [.ref 77, vi 116, vi 97, vi 107, vi 101, vi 0] [] [(0, .ref 77), (1, vi 116), (2, vi 97), (3, vi 107), (4, vi 101), (5, vi 0)] i158_174 rfl (xlk0 l158_231) (Or.inl rfl) m154 rfl rfl (Nat.le_of_ble_eq_true rfl) (Nat.le_of_ble_eq_true rfl) (Nat.le_of_ble_eq_true rfl) (xh0 sh_77 (by decide)) rfl rfl (fun R1 => c_x8_isWord N   (by omega) s13 116 97 107 101 0) (fun s15 v16 => ?_)
                refine vZeq 183 180 rfl i158_177 rfl rfl ?_ ?_
                · refine vLan 184 i158_183 rfl rfl ?_
                  refine vKb 186 i158_184 (by decide) rfl ?_
                  refine vKb 188 i158_186 (by decide) rfl ?_
                  refine vKb 190 i158_188 (by decide) rfl ?_
                  refine vKb 192 i158_190 (by decide) rfl ?_
                  refine vK 193 i158_192 rfl ?_
                  refine vCallI 196 [.ref 77, vi 100, vi 114, vi 111, vi 112, vi 0] [] [(0, .ref 77), (1, vi 100), (2, vi 114), (3, vi 111), (4, vi 112), (5, vi 0)] i158_193 rfl (xlk0 l158_231) (Or.inl rfl) m154 rfl rfl (Nat.le_of_ble_eq_true rfl) (Nat.le_of_ble_eq_true rfl) (Nat.le_of_ble_eq_true rfl) (xh0 sh_77 (by decide)) rfl rfl (fun R1 => c_x8_isWord N   (by omega) s15 100 114 111 112 0) (fun s17 v18 => ?_)
                  refine vZeq 202 199 rfl i158_196 rfl rfl ?_ ?_
                  · refine vLan 203 i158_202 rfl rfl ?_
                    refine vKb 205 i158_203 (by decide) rfl ?_
                    refine vKb 207 i158_205 (by decide) rfl ?_
                    refine vKb 209 i158_207 (by decide) rfl ?_
                    refine vKb 211 i158_209 (by decide) rfl ?_
                    refine vK 212 i158_211 rfl ?_
                    refine vCallI 215 [.ref 77, vi 115, vi 99, vi 97, vi 110, vi 0] [] [(0, .ref 77), (1, vi 115), (2, vi 99), (3, vi 97), (4, vi 110), (5, vi 0)] i158_212 rfl (xlk0 l158_231) (Or.inl rfl) m154 rfl rfl (Nat.le_of_ble_eq_true rfl) (Nat.le_of_ble_eq_true rfl) (Nat.le_of_ble_eq_true rfl) (xh0 sh_77 (by decide)) rfl rfl (fun R1 => c_x8_isWord N   (by omega) s17 115 99 97 110 0) (fun s19 v20 => ?_)
                    refine vZeq 221 218 rfl i158_215 rfl rfl ?_ ?_
                    · refine vLan 222 i158_221 rfl rfl ?_
                      refine vKb 224 i158_222 (by decide) rfl ?_
                      refine vKb 226 i158_224 (by decide) rfl ?_
                      refine vKb 228 i158_226 (by decide) rfl ?_
                      refine vKb 230 i158_228 (by decide) rfl ?_
                      refine vKb 232 i158_230 (by decide) rfl ?_
                      refine vCallI 235 [.ref 77, vi 115, vi 105, vi 101, vi 118, vi 101] [] [(0, .ref 77), (1, vi 115), (2, vi 105), (3, vi 101), (4, vi 118), (5, vi 101)] i158_232 rfl (xlk0 l158_231) (Or.inl rfl) m154 rfl rfl (Nat.le_of_ble_eq_true rfl) (Nat.le_of_ble_eq_true rfl) (Nat.le_of_ble_eq_true rfl) (xh0 sh_77 (by decide)) rfl rfl (fun R1 => c_x8_isWord N   (by omega) s19 115 105 101 118 101) (fun s21 v22 => ?_)
                      refine vZeq 241 238 rfl i158_235 rfl rfl ?_ ?_
                      · refine vLan 242 i158_241 rfl rfl ?_
                        refine vKb 244 i158_242 (by decide) rfl ?_
                        refine vKb 246 i158_244 (by decide) rfl ?_
                        refine vKb 248 i158_246 (by decide) rfl ?_
                        refine vKb 250 i158_248 (by decide) rfl ?_
                        refine vK 251 i158_250 rfl ?_
                        refine vCallI 254 [.ref 77, vi 99, vi 111, vi 110, vi 115, vi 0] [] [(0, .ref 77), (1, vi 99), (2, vi 111), (3, vi 110), (4, vi 115), (5, vi 0)] i158_251 rfl (xlk0 l158_231) (Or.inl rfl) m154 rfl rfl (Nat.le_of_ble_eq_true rfl) (Nat.le_of_ble_eq_true rfl) (Nat.le_of_ble_eq_true rfl) (xh0 sh_77 (by decide)) rfl rfl (fun R1 => c_x8_isWord N   (by omega) s21 99 111 110 115 0) (fun s23 v24 => ?_)
                        refine vZeq 260 257 rfl i158_254 rfl rfl ?_ ?_
                        · refine vLan 261 i158_260 rfl rfl ?_
                          refine vKb 263 i158_261 (by decide) rfl ?_
                          refine vKb 265 i158_263 (by decide) rfl ?_
                          refine vKb 267 i158_265 (by decide) rfl ?_
                          refine vK 268 i158_267 rfl ?_
                          refine vK 269 i158_268 rfl ?_
                          refine vCallI 272 [.ref 77, vi 99, vi 117, vi 116, vi 0, vi 0] [] [(0, .ref 77), (1, vi 99), (2, vi 117), (3, vi 116), (4, vi 0), (5, vi 0)] i158_269 rfl (xlk0 l158_231) (Or.inl rfl) m154 rfl rfl (Nat.le_of_ble_eq_true rfl) (Nat.le_of_ble_eq_true rfl) (Nat.le_of_ble_eq_true rfl) (xh0 sh_77 (by decide)) rfl rfl (fun R1 => c_x8_isWord N   (by omega) s23 99 117 116 0 0) (fun s25 v26 => ?_)
                          refine vZeq 280 275 rfl i158_272 rfl rfl ?_ ?_
                          · refine vK 281 i158_280 rfl ?_
                            exact vRi i158_281 m158 rfl
                          · refine vKb 277 i158_275 (by decide) rfl ?_
                            refine vGo 281 i158_277 rfl ?_
                            exact vRi i158_281 m158 rfl
                        · refine vKb 259 i158_257 (by decide) rfl ?_
                          exact vRi i158_259 m158 rfl
                      · refine vKb 240 i158_238 (by decide) rfl ?_
                        exact vRi i158_240 m158 rfl
                    · refine vKb 220 i158_218 (by decide) rfl ?_
                      exact vRi i158_220 m158 rfl
                  · refine vKb 201 i158_199 (by decide) rfl ?_
                    exact vRi i158_201 m158 rfl
                · refine vKb 182 i158_180 (by decide) rfl ?_
                  exact vRi i158_182 m158 rfl
              · refine vKb 163 i158_161 (by decide) rfl ?_
                exact vRi i158_163 m158 rfl
            · refine vKb 143 i158_141 (by decide) rfl ?_
              exact vRi i158_143 m158 rfl
          · refine vK 125 i158_124 rfl ?_
            exact vRi i158_125 m158 rfl
        · refine vK 106 i158_105 rfl ?_
          exact vRi i158_106 m158 rfl
      · refine vK 88 i158_87 rfl ?_
        exact vRi i158_88 m158 rfl
    · refine vK 71 i158_70 rfl ?_
      exact vRi i158_71 m158 rfl
  · refine vK 53 i158_52 rfl ?_
    exact vRi i158_53 m158 rfl
def d_x8_kindOf (N : Nat)  (s : St)  : Option Rs :=
  (if (w32 (s 77 20)) = (w32 ((s 77 22) + 1)) then bI (d_x8_byteAt N  s (s 77 22)) fun s27 v28 => bI (d_x8_in N  s27 (w32 v28) 97 104) fun s29 v30 => (if (w32 v30) = 0 then d_x8_kindOf_36 N  s29  else some (s29, 0)) else d_x8_kindOf_36 N  s )
set_option maxHeartbeats 4000000 in
set_option maxRecDepth 100000 in
theorem c_x8_kindOf {sc : xS} {d : Nat} {R : Rs} (N : Nat)  (hd : 3 ≤ d)   (s : St)  : d_x8_kindOf N  s  = some R → vT sc d 158 0 [(0, .ref 77)] [] s (fun r => r = qI R) := by
  obtain ⟨d, rfl⟩ : ∃ d', d = d' + 1 := ⟨d - 1, by omega⟩
  unfold d_x8_kindOf
  refine vLan 1 i158_0 rfl rfl ?_
  refine vGet 4 i158_1 f158_186 sh_77 rfl rfl ?_
  refine vLan 5 i158_4 rfl rfl ?_
  refine vGet 8 i158_5 f158_193 sh_77 rfl rfl ?_
  refine vK 9 i158_8 rfl ?_
  refine vIadd 10 i158_9 rfl ?_
  refine vCne 36 13 rfl rfl i158_10 rfl rfl ?_ ?_
  · exact fun hD => c_x8_kindOf_36 N  hd  s  hD
  · refine vLan 14 i158_13 rfl rfl ?_
    refine vLan 15 i158_14 rfl rfl ?_
    refine vGet 18 i158_15 f158_193 sh_77 rfl rfl ?_
    refine vCallI 21 [.ref 77, vi (s 77 22)] [] [(0, .ref 77), (1, vi (s 77 22))] i158_18 rfl (xlk0 l158_189) (Or.inl rfl) m122 rfl rfl (Nat.le_of_ble_eq_true rfl) (Nat.le_of_ble_eq_true rfl) (Nat.le_of_ble_eq_true rfl) (xh0 sh_77 (by decide)) rfl rfl (fun R1 => c_x8_byteAt N   (by omega) s (s 77 22)) (fun s27 v28 => ?_)
    refine vI2l 22 i158_21 rfl ?_
    refine vKd 25 i158_22 c158_199 rfl ?_
    refine vKd 28 i158_25 c158_229 rfl ?_
    refine vCallI 31 [vl (w32 v28), vl 97, vl 104] [] [(0, vl (w32 v28)), (2, vl 97), (4, vl 104)] i158_28 rfl (xlk1 l158_177) (Or.inr (Or.inl rfl)) m142 rfl rfl (Nat.le_of_ble_eq_true rfl) (Nat.le_of_ble_eq_true rfl) (Nat.le_of_ble_eq_true rfl) rfl rfl rfl (fun R1 => c_x8_in N   (by omega) s27 (w32 v28) 97 104) (fun s29 v30 => ?_)
    refine vZeq 36 34 rfl i158_31 rfl rfl ?_ ?_
    · exact fun hD => c_x8_kindOf_36 N  hd  s29  hD
    · refine vK 35 i158_34 rfl ?_
      exact vRi i158_35 m158 rfl
theorem f167_186 : xFld xg 167 186 = some (7, 20) := by decide +kernel
theorem f167_211 : xFld xg 167 211 = some (7, 23) := by decide +kernel
theorem f167_183 : xFld xg 167 183 = some (7, 19) := by decide +kernel
theorem i167_253 : xIns xg 167 253 = some (.putfield 196) := by decide +kernel
theorem p167_196 : xPut xg 167 196 = some (7, 21, .int) := by decide +kernel
theorem i167_256 : xIns xg 167 256 = some (.goto 30) := by decide +kernel
theorem i167_286 : xIns xg 167 286 = some (.return_) := by decide +kernel
theorem m167 : (xMet xg 167).2.2 = (3, none) := by decide +kernel
theorem i167_223 : xIns xg 167 223 = some (.putfield 211) := by decide +kernel
theorem p167_211 : xPut xg 167 211 = some (7, 23, .int) := by decide +kernel
theorem i167_226 : xIns xg 167 226 = some (.iinc 2 1) := by decide +kernel
theorem i167_229 : xIns xg 167 229 = some (.aload_n 0) := by decide +kernel
theorem i167_230 : xIns xg 167 230 = some (.dup) := by decide +kernel
theorem i167_231 : xIns xg 167 231 = some (.getfield 186) := by decide +kernel
theorem i167_234 : xIns xg 167 234 = some (.iconst 1) := by decide +kernel
theorem i167_235 : xIns xg 167 235 = some (.iadd) := by decide +kernel
theorem i167_236 : xIns xg 167 236 = some (.putfield 186) := by decide +kernel
theorem p167_186 : xPut xg 167 186 = some (7, 20, .int) := by decide +kernel
theorem i167_239 : xIns xg 167 239 = some (.goto (-69)) := by decide +kernel
theorem i167_170 : xIns xg 167 170 = some (.aload_n 0) := by decide +kernel
theorem i167_171 : xIns xg 167 171 = some (.aload_n 0) := by decide +kernel
theorem i167_172 : xIns xg 167 172 = some (.getfield 186) := by decide +kernel
theorem i167_175 : xIns xg 167 175 = some (.invokevirtual 189) := by decide +kernel
theorem i167_178 : xIns xg 167 178 = some (.i2l) := by decide +kernel
theorem i167_179 : xIns xg 167 179 = some (.ldc2_w 207) := by decide +kernel
theorem c167_207 : xCon xg 167 207 = some (vl (48)) := by decide +kernel
theorem i167_182 : xIns xg 167 182 = some (.ldc2_w 209) := by decide +kernel
theorem c167_209 : xCon xg 167 209 = some (vl (57)) := by decide +kernel
theorem i167_185 : xIns xg 167 185 = some (.invokestatic 177) := by decide +kernel
theorem i167_188 : xIns xg 167 188 = some (.ifCond .eq 54) := by decide +kernel
theorem i167_242 : xIns xg 167 242 = some (.aload_n 0) := by decide +kernel
theorem i167_243 : xIns xg 167 243 = some (.iload_n 2) := by decide +kernel
theorem i167_244 : xIns xg 167 244 = some (.iconst 4) := by decide +kernel
theorem i167_245 : xIns xg 167 245 = some (.if_icmp .le 7) := by decide +kernel
theorem i167_252 : xIns xg 167 252 = some (.iconst 2) := by decide +kernel
theorem i167_248 : xIns xg 167 248 = some (.iconst 4) := by decide +kernel
theorem i167_249 : xIns xg 167 249 = some (.goto 4) := by decide +kernel
theorem i167_191 : xIns xg 167 191 = some (.aload_n 0) := by decide +kernel
theorem i167_192 : xIns xg 167 192 = some (.iload_n 2) := by decide +kernel
theorem i167_193 : xIns xg 167 193 = some (.iconst 4) := by decide +kernel
theorem i167_194 : xIns xg 167 194 = some (.if_icmp .ge 25) := by decide +kernel
theorem i167_219 : xIns xg 167 219 = some (.aload_n 0) := by decide +kernel
theorem i167_220 : xIns xg 167 220 = some (.getfield 211) := by decide +kernel
theorem i167_197 : xIns xg 167 197 = some (.bipush 10) := by decide +kernel
theorem i167_199 : xIns xg 167 199 = some (.aload_n 0) := by decide +kernel
theorem i167_200 : xIns xg 167 200 = some (.getfield 211) := by decide +kernel
theorem i167_203 : xIns xg 167 203 = some (.imul) := by decide +kernel
theorem i167_204 : xIns xg 167 204 = some (.aload_n 0) := by decide +kernel
theorem i167_205 : xIns xg 167 205 = some (.aload_n 0) := by decide +kernel
theorem i167_206 : xIns xg 167 206 = some (.getfield 186) := by decide +kernel
theorem i167_209 : xIns xg 167 209 = some (.invokevirtual 189) := by decide +kernel
theorem i167_212 : xIns xg 167 212 = some (.iadd) := by decide +kernel
theorem i167_213 : xIns xg 167 213 = some (.bipush 48) := by decide +kernel
theorem i167_215 : xIns xg 167 215 = some (.isub) := by decide +kernel
theorem i167_216 : xIns xg 167 216 = some (.goto 7) := by decide +kernel
theorem i167_143 : xIns xg 167 143 = some (.putfield 196) := by decide +kernel
theorem i167_146 : xIns xg 167 146 = some (.goto 140) := by decide +kernel
theorem i167_95 : xIns xg 167 95 = some (.aload_n 0) := by decide +kernel
theorem i167_96 : xIns xg 167 96 = some (.aload_n 0) := by decide +kernel
theorem i167_97 : xIns xg 167 97 = some (.getfield 186) := by decide +kernel
theorem i167_100 : xIns xg 167 100 = some (.invokevirtual 189) := by decide +kernel
theorem i167_103 : xIns xg 167 103 = some (.i2l) := by decide +kernel
theorem i167_104 : xIns xg 167 104 = some (.ldc2_w 199) := by decide +kernel
theorem c167_199 : xCon xg 167 199 = some (vl (97)) := by decide +kernel
theorem i167_107 : xIns xg 167 107 = some (.ldc2_w 201) := by decide +kernel
theorem c167_201 : xCon xg 167 201 = some (vl (122)) := by decide +kernel
theorem i167_110 : xIns xg 167 110 = some (.invokestatic 177) := by decide +kernel
theorem i167_113 : xIns xg 167 113 = some (.ifCond .eq 16) := by decide +kernel
theorem i167_129 : xIns xg 167 129 = some (.aload_n 0) := by decide +kernel
theorem i167_130 : xIns xg 167 130 = some (.aload_n 0) := by decide +kernel
theorem i167_131 : xIns xg 167 131 = some (.invokevirtual 203) := by decide +kernel
theorem i167_134 : xIns xg 167 134 = some (.iconst (-1)) := by decide +kernel
theorem i167_135 : xIns xg 167 135 = some (.if_icmp .ne 7) := by decide +kernel
theorem i167_142 : xIns xg 167 142 = some (.iconst 1) := by decide +kernel
theorem i167_138 : xIns xg 167 138 = some (.iconst 4) := by decide +kernel
theorem i167_139 : xIns xg 167 139 = some (.goto 4) := by decide +kernel
theorem i167_116 : xIns xg 167 116 = some (.aload_n 0) := by decide +kernel
theorem i167_117 : xIns xg 167 117 = some (.dup) := by decide +kernel
theorem i167_118 : xIns xg 167 118 = some (.getfield 186) := by decide +kernel
theorem i167_121 : xIns xg 167 121 = some (.iconst 1) := by decide +kernel
theorem i167_122 : xIns xg 167 122 = some (.iadd) := by decide +kernel
theorem i167_123 : xIns xg 167 123 = some (.putfield 186) := by decide +kernel
theorem i167_126 : xIns xg 167 126 = some (.goto (-31)) := by decide +kernel
theorem i167_26 : xIns xg 167 26 = some (.aload_n 0) := by decide +kernel
theorem i167_27 : xIns xg 167 27 = some (.dup) := by decide +kernel
theorem i167_28 : xIns xg 167 28 = some (.getfield 186) := by decide +kernel
theorem i167_31 : xIns xg 167 31 = some (.iconst 1) := by decide +kernel
theorem i167_32 : xIns xg 167 32 = some (.iadd) := by decide +kernel
theorem i167_33 : xIns xg 167 33 = some (.putfield 186) := by decide +kernel
theorem i167_36 : xIns xg 167 36 = some (.goto (-36)) := by decide +kernel
theorem i167_0 : xIns xg 167 0 = some (.aload_n 0) := by decide +kernel
theorem i167_1 : xIns xg 167 1 = some (.aload_n 0) := by decide +kernel
theorem i167_2 : xIns xg 167 2 = some (.getfield 186) := by decide +kernel
theorem i167_5 : xIns xg 167 5 = some (.invokevirtual 189) := by decide +kernel
theorem i167_8 : xIns xg 167 8 = some (.bipush 32) := by decide +kernel
theorem i167_10 : xIns xg 167 10 = some (.if_icmp .eq 16) := by decide +kernel
theorem i167_13 : xIns xg 167 13 = some (.aload_n 0) := by decide +kernel
theorem i167_14 : xIns xg 167 14 = some (.aload_n 0) := by decide +kernel
theorem i167_15 : xIns xg 167 15 = some (.getfield 186) := by decide +kernel
theorem i167_18 : xIns xg 167 18 = some (.invokevirtual 189) := by decide +kernel
theorem i167_21 : xIns xg 167 21 = some (.bipush 10) := by decide +kernel
theorem i167_23 : xIns xg 167 23 = some (.if_icmp .ne 16) := by decide +kernel
theorem i167_39 : xIns xg 167 39 = some (.aload_n 0) := by decide +kernel
theorem i167_40 : xIns xg 167 40 = some (.aload_n 0) := by decide +kernel
theorem i167_41 : xIns xg 167 41 = some (.getfield 186) := by decide +kernel
theorem i167_44 : xIns xg 167 44 = some (.putfield 193) := by decide +kernel
theorem p167_193 : xPut xg 167 193 = some (7, 22, .int) := by decide +kernel
theorem i167_47 : xIns xg 167 47 = some (.aload_n 0) := by decide +kernel
theorem i167_48 : xIns xg 167 48 = some (.aload_n 0) := by decide +kernel
theorem i167_49 : xIns xg 167 49 = some (.getfield 186) := by decide +kernel
theorem i167_52 : xIns xg 167 52 = some (.invokevirtual 189) := by decide +kernel
theorem i167_55 : xIns xg 167 55 = some (.istore_n 1) := by decide +kernel
theorem i167_56 : xIns xg 167 56 = some (.aload_n 0) := by decide +kernel
theorem i167_57 : xIns xg 167 57 = some (.iconst 4) := by decide +kernel
theorem i167_58 : xIns xg 167 58 = some (.putfield 196) := by decide +kernel
theorem i167_61 : xIns xg 167 61 = some (.iload_n 1) := by decide +kernel
theorem i167_62 : xIns xg 167 62 = some (.ifCond .ge 19) := by decide +kernel
theorem i167_81 : xIns xg 167 81 = some (.iload_n 1) := by decide +kernel
theorem i167_82 : xIns xg 167 82 = some (.i2l) := by decide +kernel
theorem i167_83 : xIns xg 167 83 = some (.ldc2_w 199) := by decide +kernel
theorem i167_86 : xIns xg 167 86 = some (.ldc2_w 201) := by decide +kernel
theorem i167_89 : xIns xg 167 89 = some (.invokestatic 177) := by decide +kernel
theorem i167_92 : xIns xg 167 92 = some (.ifCond .eq 57) := by decide +kernel
theorem i167_149 : xIns xg 167 149 = some (.iload_n 1) := by decide +kernel
theorem i167_150 : xIns xg 167 150 = some (.i2l) := by decide +kernel
theorem i167_151 : xIns xg 167 151 = some (.ldc2_w 207) := by decide +kernel
theorem i167_154 : xIns xg 167 154 = some (.ldc2_w 209) := by decide +kernel
theorem i167_157 : xIns xg 167 157 = some (.invokestatic 177) := by decide +kernel
theorem i167_160 : xIns xg 167 160 = some (.ifCond .eq 99) := by decide +kernel
theorem i167_259 : xIns xg 167 259 = some (.iload_n 1) := by decide +kernel
theorem i167_260 : xIns xg 167 260 = some (.invokestatic 214) := by decide +kernel
theorem i167_263 : xIns xg 167 263 = some (.ifCond .eq 23) := by decide +kernel
theorem i167_266 : xIns xg 167 266 = some (.aload_n 0) := by decide +kernel
theorem i167_267 : xIns xg 167 267 = some (.iconst 3) := by decide +kernel
theorem i167_268 : xIns xg 167 268 = some (.putfield 196) := by decide +kernel
theorem i167_271 : xIns xg 167 271 = some (.aload_n 0) := by decide +kernel
theorem i167_272 : xIns xg 167 272 = some (.iload_n 1) := by decide +kernel
theorem i167_273 : xIns xg 167 273 = some (.putfield 211) := by decide +kernel
theorem i167_276 : xIns xg 167 276 = some (.aload_n 0) := by decide +kernel
theorem i167_277 : xIns xg 167 277 = some (.dup) := by decide +kernel
theorem i167_278 : xIns xg 167 278 = some (.getfield 186) := by decide +kernel
theorem i167_281 : xIns xg 167 281 = some (.iconst 1) := by decide +kernel
theorem i167_282 : xIns xg 167 282 = some (.iadd) := by decide +kernel
theorem i167_283 : xIns xg 167 283 = some (.putfield 186) := by decide +kernel
theorem i167_163 : xIns xg 167 163 = some (.iconst 0) := by decide +kernel
theorem i167_164 : xIns xg 167 164 = some (.istore_n 2) := by decide +kernel
theorem i167_165 : xIns xg 167 165 = some (.aload_n 0) := by decide +kernel
theorem i167_166 : xIns xg 167 166 = some (.iconst 0) := by decide +kernel
theorem i167_167 : xIns xg 167 167 = some (.putfield 211) := by decide +kernel
theorem i167_65 : xIns xg 167 65 = some (.aload_n 0) := by decide +kernel
theorem i167_66 : xIns xg 167 66 = some (.iconst 0) := by decide +kernel
theorem i167_67 : xIns xg 167 67 = some (.putfield 196) := by decide +kernel
theorem i167_70 : xIns xg 167 70 = some (.aload_n 0) := by decide +kernel
theorem i167_71 : xIns xg 167 71 = some (.aload_n 0) := by decide +kernel
theorem i167_72 : xIns xg 167 72 = some (.getfield 183) := by decide +kernel
theorem i167_75 : xIns xg 167 75 = some (.putfield 193) := by decide +kernel
theorem i167_78 : xIns xg 167 78 = some (.goto 208) := by decide +kernel
def d_x8_next_253 (N : Nat)  (s : St) (z0 : Int) : Option Rs :=
  bd (up s 77 21 z0) fun s1 => some (s1, 0)
set_option maxHeartbeats 4000000 in
set_option maxRecDepth 100000 in
theorem c_x8_next_253 {sc : xS} {d : Nat} {R : Rs} (N : Nat)  (hd : 4 ≤ d)   (s : St) (z0 : Int) : d_x8_next_253 N  s z0 = some R → vT sc d 167 253 [] [vi z0, .ref 77] s (fun r => r = qV R) := by
  obtain ⟨d, rfl⟩ : ∃ d', d = d' + 1 := ⟨d - 1, by omega⟩
  unfold d_x8_next_253
  refine vPut 256 i167_253 p167_196 sh_77 rfl rfl (fun s1 => ?_)
  refine vGo 286 i167_256 rfl ?_
  exact vR0 i167_286 m167
def d_x8_next_223 (N : Nat) (k170 : St → Int → Option Rs) (s : St) (x2 : Int) (z0 : Int) : Option Rs :=
  bd (up s 77 23 z0) fun s2 => bd (x2 + 1) fun v3 => bd (up s2 77 20 ((s2 77 20) + 1)) fun s4 => k170 s4 v3
set_option maxHeartbeats 4000000 in
set_option maxRecDepth 100000 in
theorem c_x8_next_223 {sc : xS} {d : Nat} {R : Rs} (N : Nat)  (hd : 4 ≤ d) (k170 : St → Int → Option Rs) (hk170 : ∀ (s : St) (x2 : Int), k170 s x2 = some R → vT sc d 167 170 [(0, .ref 77), (2, vi x2)] [] s (fun r => r = qV R))  (s : St) (x2 : Int) (z0 : Int) : d_x8_next_223 N k170 s x2 z0 = some R → vT sc d 167 223 [(0, .ref 77), (2, vi x2)] [vi z0, .ref 77] s (fun r => r = qV R) := by
  obtain ⟨d, rfl⟩ : ∃ d', d = d' + 1 := ⟨d - 1, by omega⟩
  unfold d_x8_next_223
  refine vPut 226 i167_223 p167_211 sh_77 rfl rfl (fun s2 => ?_)
  refine vInc 229 (fun v3 => [(2, vi v3), (0, .ref 77)]) i167_226 m167 (by decide) rfl (fun _ => rfl) rfl (fun v3 => ?_)
  refine vLan 230 i167_229 rfl rfl ?_
  refine vD 231 i167_230 rfl rfl rfl ?_
  refine vGet 234 i167_231 f167_186 sh_77 rfl rfl ?_
  refine vK 235 i167_234 rfl ?_
  refine vIadd 236 i167_235 rfl ?_
  refine vPut 239 i167_236 p167_186 sh_77 rfl rfl (fun s4 => ?_)
  refine vGo 170 i167_239 rfl ?_
  exact fun hD => tLc [(0, .ref 77), (2, vi v3)] (xNdk [0, 2] rfl (by decide)) (xNdk [2, 0] rfl (by decide)) ⟨rfl, rfl, trivial⟩ (hk170 s4 v3 hD)
def d_x8_next_170 (N : Nat)  (k170 : St → Int → Option Rs) (s : St) (x2 : Int) : Option Rs :=
  bI (d_x8_byteAt N  s (s 77 20)) fun s5 v6 => bI (d_x8_in N  s5 (w32 v6) 48 57) fun s7 v8 => (if (w32 v8) = 0 then (if 4 < (w32 x2) then d_x8_next_253 N  s7 4 else d_x8_next_253 N  s7 2) else (if (w32 x2) < 4 then bI (d_x8_byteAt N  s7 (s7 77 20)) fun s9 v10 => d_x8_next_223 N k170 s9 x2 (((10 * (s7 77 23)) + v10) - 48) else d_x8_next_223 N k170 s7 x2 (s7 77 23)))
def d_x8_next_170L (N : Nat)  : Nat → St → Int → Option Rs
  | 0 => fun _ _ => none
  | n + 1 => d_x8_next_170 N  (d_x8_next_170L N  n)
set_option maxHeartbeats 4000000 in
set_option maxRecDepth 100000 in
theorem c_x8_next_170 {sc : xS} {d : Nat} {R : Rs} (N : Nat)  (hd : 4 ≤ d)   (k170 : St → Int → Option Rs) (hk170 : ∀ (s : St) (x2 : Int), k170 s x2 = some R → vT sc d 167 170 [(0, .ref 77), (2, vi x2)] [] s (fun r => r = qV R)) (s : St) (x2 : Int) : d_x8_next_170 N  k170 s x2 = some R → vT sc d 167 170 [(0, .ref 77), (2, vi x2)] [] s (fun r => r = qV R) := by
  obtain ⟨d, rfl⟩ : ∃ d', d = d' + 1 := ⟨d - 1, by omega⟩
  unfold d_x8_next_170
  refine vLan 171 i167_170 rfl rfl ?_
  refine vLan 172 i167_171 rfl rfl ?_
  refine vGet 175 i167_172 f167_186 sh_77 rfl rfl ?_
  refine vCallI 178 [.ref 77, vi (s 77 20)] [] [(0, .ref 77), (1, vi (s 77 20))] i167_175 rfl (xlk0 l167_189) (Or.inl rfl) m122 rfl rfl (Nat.le_of_ble_eq_true rfl) (Nat.le_of_ble_eq_true rfl) (Nat.le_of_ble_eq_true rfl) (xh0 sh_77 (by decide)) rfl rfl (fun R1 => c_x8_byteAt N   (by omega) s (s 77 20)) (fun s5 v6 => ?_)
  refine vI2l 179 i167_178 rfl ?_
  refine vKd 182 i167_179 c167_207 rfl ?_
  refine vKd 185 i167_182 c167_209 rfl ?_
  refine vCallI 188 [vl (w32 v6), vl 48, vl 57] [] [(0, vl (w32 v6)), (2, vl 48), (4, vl 57)] i167_185 rfl (xlk1 l167_177) (Or.inr (Or.inl rfl)) m142 rfl rfl (Nat.le_of_ble_eq_true rfl) (Nat.le_of_ble_eq_true rfl) (Nat.le_of_ble_eq_true rfl) rfl rfl rfl (fun R1 => c_x8_in N   (by omega) s5 (w32 v6) 48 57) (fun s7 v8 => ?_)
  refine vZeq 242 191 rfl i167_188 rfl rfl ?_ ?_
  · refine vLan 243 i167_242 rfl rfl ?_
    refine vLin 244 i167_243 rfl rfl ?_
    refine vK 245 i167_244 rfl ?_
    refine vCle 252 248 rfl (show w32 4 = 4 from rfl) i167_245 rfl rfl ?_ ?_
    · refine vK 253 i167_252 rfl ?_
      exact fun hD => tLc [] (xNdk [] rfl (by decide)) (xNdk [0, 2] rfl (by decide)) trivial (c_x8_next_253 N  hd  s7 2 hD)
    · refine vK 249 i167_248 rfl ?_
      refine vGo 253 i167_249 rfl ?_
      exact fun hD => tLc [] (xNdk [] rfl (by decide)) (xNdk [0, 2] rfl (by decide)) trivial (c_x8_next_253 N  hd  s7 4 hD)
  · refine vLan 192 i167_191 rfl rfl ?_
    refine vLin 193 i167_192 rfl rfl ?_
    refine vK 194 i167_193 rfl ?_
    refine vCge 219 197 rfl (show w32 4 = 4 from rfl) i167_194 rfl rfl ?_ ?_
    · refine vLan 220 i167_219 rfl rfl ?_
      refine vGet 223 i167_220 f167_211 sh_77 rfl rfl ?_
      exact fun hD => c_x8_next_223 N  hd k170 hk170 s7 x2 (s7 77 23) hD
    · refine vKb 199 i167_197 (by decide) rfl ?_
      refine vLan 200 i167_199 rfl rfl ?_
      refine vGet 203 i167_200 f167_211 sh_77 rfl rfl ?_
      refine vImul 204 i167_203 rfl ?_
      refine vLan 205 i167_204 rfl rfl ?_
      refine vLan 206 i167_205 rfl rfl ?_
      refine vGet 209 i167_206 f167_186 sh_77 rfl rfl ?_
      refine vCallI 212 [.ref 77, vi (s7 77 20)] [vi (10 * (s7 77 23)), .ref 77] [(0, .ref 77), (1, vi (s7 77 20))] i167_209 rfl (xlk0 l167_189) (Or.inl rfl) m122 rfl rfl (Nat.le_of_ble_eq_true rfl) (Nat.le_of_ble_eq_true rfl) (Nat.le_of_ble_eq_true rfl) (xh0 sh_77 (by decide)) rfl rfl (fun R1 => c_x8_byteAt N   (by omega) s7 (s7 77 20)) (fun s9 v10 => ?_)
      refine vIadd 213 i167_212 rfl ?_
      refine vKb 215 i167_213 (by decide) rfl ?_
      refine vIsub 216 i167_215 rfl ?_
      refine vGo 223 i167_216 rfl ?_
      exact fun hD => c_x8_next_223 N  hd k170 hk170 s9 x2 (((10 * (s7 77 23)) + v10) - 48) hD
theorem c_x8_next_170L {sc : xS} {d : Nat} {R : Rs} (N : Nat)  (hd : 4 ≤ d)   : ∀ (n : Nat) (s : St) (x2 : Int), d_x8_next_170L N  n s x2 = some R → vT sc d 167 170 [(0, .ref 77), (2, vi x2)] [] s (fun r => r = qV R) := by
  intro n
  induction n with
  | zero => intro s x2 hD; cases hD
  | succ n ih => intro s x2 hD; exact c_x8_next_170 N  hd  _ ih s x2 hD
def d_x8_next_143 (N : Nat)  (s : St) (z0 : Int) : Option Rs :=
  bd (up s 77 21 z0) fun s11 => some (s11, 0)
set_option maxHeartbeats 4000000 in
set_option maxRecDepth 100000 in
theorem c_x8_next_143 {sc : xS} {d : Nat} {R : Rs} (N : Nat)  (hd : 4 ≤ d)   (s : St) (z0 : Int) : d_x8_next_143 N  s z0 = some R → vT sc d 167 143 [] [vi z0, .ref 77] s (fun r => r = qV R) := by
  obtain ⟨d, rfl⟩ : ∃ d', d = d' + 1 := ⟨d - 1, by omega⟩
  unfold d_x8_next_143
  refine vPut 146 i167_143 p167_196 sh_77 rfl rfl (fun s11 => ?_)
  refine vGo 286 i167_146 rfl ?_
  exact vR0 i167_286 m167
def d_x8_next_95 (N : Nat)  (k95 : St → Option Rs) (s : St)  : Option Rs :=
  bI (d_x8_byteAt N  s (s 77 20)) fun s12 v13 => bI (d_x8_in N  s12 (w32 v13) 97 122) fun s14 v15 => (if (w32 v15) = 0 then bI (d_x8_kindOf N  s14 ) fun s16 v17 => (if (w32 v17) = (-1) then d_x8_next_143 N  s16 4 else d_x8_next_143 N  s16 1) else bd (up s14 77 20 ((s14 77 20) + 1)) fun s18 => k95 s18 )
def d_x8_next_95L (N : Nat)  : Nat → St → Option Rs
  | 0 => fun _  => none
  | n + 1 => d_x8_next_95 N  (d_x8_next_95L N  n)
set_option maxHeartbeats 4000000 in
set_option maxRecDepth 100000 in
theorem c_x8_next_95 {sc : xS} {d : Nat} {R : Rs} (N : Nat)  (hd : 4 ≤ d)   (k95 : St → Option Rs) (hk95 : ∀ (s : St) , k95 s  = some R → vT sc d 167 95 [(0, .ref 77)] [] s (fun r => r = qV R)) (s : St)  : d_x8_next_95 N  k95 s  = some R → vT sc d 167 95 [(0, .ref 77)] [] s (fun r => r = qV R) := by
  obtain ⟨d, rfl⟩ : ∃ d', d = d' + 1 := ⟨d - 1, by omega⟩
  unfold d_x8_next_95
  refine vLan 96 i167_95 rfl rfl ?_
  refine vLan 97 i167_96 rfl rfl ?_
  refine vGet 100 i167_97 f167_186 sh_77 rfl rfl ?_
  refine vCallI 103 [.ref 77, vi (s 77 20)] [] [(0, .ref 77), (1, vi (s 77 20))] i167_100 rfl (xlk0 l167_189) (Or.inl rfl) m122 rfl rfl (Nat.le_of_ble_eq_true rfl) (Nat.le_of_ble_eq_true rfl) (Nat.le_of_ble_eq_true rfl) (xh0 sh_77 (by decide)) rfl rfl (fun R1 => c_x8_byteAt N   (by omega) s (s 77 20)) (fun s12 v13 => ?_)
  refine vI2l 104 i167_103 rfl ?_
  refine vKd 107 i167_104 c167_199 rfl ?_
  refine vKd 110 i167_107 c167_201 rfl ?_
  refine vCallI 113 [vl (w32 v13), vl 97, vl 122] [] [(0, vl (w32 v13)), (2, vl 97), (4, vl 122)] i167_110 rfl (xlk1 l167_177) (Or.inr (Or.inl rfl)) m142 rfl rfl (Nat.le_of_ble_eq_true rfl) (Nat.le_of_ble_eq_true rfl) (Nat.le_of_ble_eq_true rfl) rfl rfl rfl (fun R1 => c_x8_in N   (by omega) s12 (w32 v13) 97 122) (fun s14 v15 => ?_)
  refine vZeq 129 116 rfl i167_113 rfl rfl ?_ ?_
  · refine vLan 130 i167_129 rfl rfl ?_
    refine vLan 131 i167_130 rfl rfl ?_
    refine vCallI 134 [.ref 77] [.ref 77] [(0, .ref 77)] i167_131 rfl (xlk0 l167_203) (Or.inl rfl) m158 rfl rfl (Nat.le_of_ble_eq_true rfl) (Nat.le_of_ble_eq_true rfl) (Nat.le_of_ble_eq_true rfl) (xh0 sh_77 (by decide)) rfl rfl (fun R1 => c_x8_kindOf N   (by omega) s14 ) (fun s16 v17 => ?_)
    refine vK 135 i167_134 rfl ?_
    refine vCne 142 138 rfl (show w32 (-1) = (-1) from rfl) i167_135 rfl rfl ?_ ?_
    · refine vK 143 i167_142 rfl ?_
      exact fun hD => tLc [] (xNdk [] rfl (by decide)) (xNdk [0] rfl (by decide)) trivial (c_x8_next_143 N  hd  s16 1 hD)
    · refine vK 139 i167_138 rfl ?_
      refine vGo 143 i167_139 rfl ?_
      exact fun hD => tLc [] (xNdk [] rfl (by decide)) (xNdk [0] rfl (by decide)) trivial (c_x8_next_143 N  hd  s16 4 hD)
  · refine vLan 117 i167_116 rfl rfl ?_
    refine vD 118 i167_117 rfl rfl rfl ?_
    refine vGet 121 i167_118 f167_186 sh_77 rfl rfl ?_
    refine vK 122 i167_121 rfl ?_
    refine vIadd 123 i167_122 rfl ?_
    refine vPut 126 i167_123 p167_186 sh_77 rfl rfl (fun s18 => ?_)
    refine vGo 95 i167_126 rfl ?_
    exact fun hD => hk95 s18  hD
theorem c_x8_next_95L {sc : xS} {d : Nat} {R : Rs} (N : Nat)  (hd : 4 ≤ d)   : ∀ (n : Nat) (s : St) , d_x8_next_95L N  n s  = some R → vT sc d 167 95 [(0, .ref 77)] [] s (fun r => r = qV R) := by
  intro n
  induction n with
  | zero => intro s  hD; cases hD
  | succ n ih => intro s  hD; exact c_x8_next_95 N  hd  _ ih s  hD
def d_x8_next_26 (N : Nat) (k0 : St → Option Rs) (s : St)  : Option Rs :=
  bd (up s 77 20 ((s 77 20) + 1)) fun s19 => k0 s19 
set_option maxHeartbeats 4000000 in
set_option maxRecDepth 100000 in
theorem c_x8_next_26 {sc : xS} {d : Nat} {R : Rs} (N : Nat)  (hd : 4 ≤ d) (k0 : St → Option Rs) (hk0 : ∀ (s : St) , k0 s  = some R → vT sc d 167 0 [(0, .ref 77)] [] s (fun r => r = qV R))  (s : St)  : d_x8_next_26 N k0 s  = some R → vT sc d 167 26 [(0, .ref 77)] [] s (fun r => r = qV R) := by
  obtain ⟨d, rfl⟩ : ∃ d', d = d' + 1 := ⟨d - 1, by omega⟩
  unfold d_x8_next_26
  refine vLan 27 i167_26 rfl rfl ?_
  refine vD 28 i167_27 rfl rfl rfl ?_
  refine vGet 31 i167_28 f167_186 sh_77 rfl rfl ?_
  refine vK 32 i167_31 rfl ?_
  refine vIadd 33 i167_32 rfl ?_
  refine vPut 36 i167_33 p167_186 sh_77 rfl rfl (fun s19 => ?_)
  refine vGo 0 i167_36 rfl ?_
  exact fun hD => hk0 s19  hD
def d_x8_next_0 (N : Nat)  (k0 : St → Option Rs) (s : St)  : Option Rs :=
  bI (d_x8_byteAt N  s (s 77 20)) fun s20 v21 => (if (w32 v21) = 32 then d_x8_next_26 N k0 s20  else bI (d_x8_byteAt N  s20 (s20 77 20)) fun s22 v23 => (if (w32 v23) = 10 then d_x8_next_26 N k0 s22  else bd (up s22 77 22 (s22 77 20)) fun s24 => bI (d_x8_byteAt N  s24 (s24 77 20)) fun s25 v26 => bd (up s25 77 21 4) fun s27 => (if (w32 v26) < 0 then bd (up s27 77 21 0) fun s38 => bd (up s38 77 22 (s38 77 19)) fun s39 => some (s39, 0) else bI (d_x8_in N  s27 (w32 v26) 97 122) fun s28 v29 => (if (w32 v29) = 0 then bI (d_x8_in N  s28 (w32 v26) 48 57) fun s30 v31 => (if (w32 v31) = 0 then bI (d_x8_isSignByte N  s30 v26) fun s32 v33 => (if (w32 v33) = 0 then some (s32, 0) else bd (up s32 77 21 3) fun s34 => bd (up s34 77 23 v26) fun s35 => bd (up s35 77 20 ((s35 77 20) + 1)) fun s36 => some (s36, 0)) else bd (up s30 77 23 0) fun s37 => d_x8_next_170L N  N s37 0) else d_x8_next_95L N  N s28 ))))
def d_x8_next_0L (N : Nat)  : Nat → St → Option Rs
  | 0 => fun _  => none
  | n + 1 => d_x8_next_0 N  (d_x8_next_0L N  n)
set_option maxHeartbeats 4000000 in
set_option maxRecDepth 100000 in
theorem c_x8_next_0 {sc : xS} {d : Nat} {R : Rs} (N : Nat)  (hd : 4 ≤ d)   (k0 : St → Option Rs) (hk0 : ∀ (s : St) , k0 s  = some R → vT sc d 167 0 [(0, .ref 77)] [] s (fun r => r = qV R)) (s : St)  : d_x8_next_0 N  k0 s  = some R → vT sc d 167 0 [(0, .ref 77)] [] s (fun r => r = qV R) := by
  obtain ⟨d, rfl⟩ : ∃ d', d = d' + 1 := ⟨d - 1, by omega⟩
  unfold d_x8_next_0
  refine vLan 1 i167_0 rfl rfl ?_
  refine vLan 2 i167_1 rfl rfl ?_
  refine vGet 5 i167_2 f167_186 sh_77 rfl rfl ?_
  refine vCallI 8 [.ref 77, vi (s 77 20)] [] [(0, .ref 77), (1, vi (s 77 20))] i167_5 rfl (xlk0 l167_189) (Or.inl rfl) m122 rfl rfl (Nat.le_of_ble_eq_true rfl) (Nat.le_of_ble_eq_true rfl) (Nat.le_of_ble_eq_true rfl) (xh0 sh_77 (by decide)) rfl rfl (fun R1 => c_x8_byteAt N   (by omega) s (s 77 20)) (fun s20 v21 => ?_)
  refine vKb 10 i167_8 (by decide) rfl ?_
  refine vCeq 26 13 rfl (show w32 32 = 32 from rfl) i167_10 rfl rfl ?_ ?_
  · exact fun hD => c_x8_next_26 N  hd k0 hk0 s20  hD
  · refine vLan 14 i167_13 rfl rfl ?_
    refine vLan 15 i167_14 rfl rfl ?_
    refine vGet 18 i167_15 f167_186 sh_77 rfl rfl ?_
    refine vCallI 21 [.ref 77, vi (s20 77 20)] [] [(0, .ref 77), (1, vi (s20 77 20))] i167_18 rfl (xlk0 l167_189) (Or.inl rfl) m122 rfl rfl (Nat.le_of_ble_eq_true rfl) (Nat.le_of_ble_eq_true rfl) (Nat.le_of_ble_eq_true rfl) (xh0 sh_77 (by decide)) rfl rfl (fun R1 => c_x8_byteAt N   (by omega) s20 (s20 77 20)) (fun s22 v23 => ?_)
    refine vKb 23 i167_21 (by decide) rfl ?_
    refine vCne 39 26 rfl (show w32 10 = 10 from rfl) i167_23 rfl rfl ?_ ?_
    · refine vLan 40 i167_39 rfl rfl ?_
      refine vLan 41 i167_40 rfl rfl ?_
      refine vGet 44 i167_41 f167_186 sh_77 rfl rfl ?_
      refine vPut 47 i167_44 p167_193 sh_77 rfl rfl (fun s24 => ?_)
      refine vLan 48 i167_47 rfl rfl ?_
      refine vLan 49 i167_48 rfl rfl ?_
      refine vGet 52 i167_49 f167_186 sh_77 rfl rfl ?_
      refine vCallI 55 [.ref 77, vi (s24 77 20)] [] [(0, .ref 77), (1, vi (s24 77 20))] i167_52 rfl (xlk0 l167_189) (Or.inl rfl) m122 rfl rfl (Nat.le_of_ble_eq_true rfl) (Nat.le_of_ble_eq_true rfl) (Nat.le_of_ble_eq_true rfl) (xh0 sh_77 (by decide)) rfl rfl (fun R1 => c_x8_byteAt N   (by omega) s24 (s24 77 20)) (fun s25 v26 => ?_)
      refine vSin0 56 [(1, vi v26), (0, .ref 77)] i167_55 m167 (by decide) rfl rfl ?_
      refine vLan 57 i167_56 rfl rfl ?_
      refine vK 58 i167_57 rfl ?_
      refine vPut 61 i167_58 p167_196 sh_77 rfl rfl (fun s27 => ?_)
      refine vLin 62 i167_61 rfl rfl ?_
      refine vZge 81 65 rfl i167_62 rfl rfl ?_ ?_
      · refine vLin 82 i167_81 rfl rfl ?_
        refine vI2l 83 i167_82 rfl ?_
        refine vKd 86 i167_83 c167_199 rfl ?_
        refine vKd 89 i167_86 c167_201 rfl ?_
        refine vCallI 92 [vl (w32 v26), vl 97, vl 122] [] [(0, vl (w32 v26)), (2, vl 97), (4, vl 122)] i167_89 rfl (xlk1 l167_177) (Or.inr (Or.inl rfl)) m142 rfl rfl (Nat.le_of_ble_eq_true rfl) (Nat.le_of_ble_eq_true rfl) (Nat.le_of_ble_eq_true rfl) rfl rfl rfl (fun R1 => c_x8_in N   (by omega) s27 (w32 v26) 97 122) (fun s28 v29 => ?_)
        refine vZeq 149 95 rfl i167_92 rfl rfl ?_ ?_
        · refine vLin 150 i167_149 rfl rfl ?_
          refine vI2l 151 i167_150 rfl ?_
          refine vKd 154 i167_151 c167_207 rfl ?_
          refine vKd 157 i167_154 c167_209 rfl ?_
          refine vCallI 160 [vl (w32 v26), vl 48, vl 57] [] [(0, vl (w32 v26)), (2, vl 48), (4, vl 57)] i167_157 rfl (xlk1 l167_177) (Or.inr (Or.inl rfl)) m142 rfl rfl (Nat.le_of_ble_eq_true rfl) (Nat.le_of_ble_eq_true rfl) (Nat.le_of_ble_eq_true rfl) rfl rfl rfl (fun R1 => c_x8_in N   (by omega) s28 (w32 v26) 48 57) (fun s30 v31 => ?_)
          refine vZeq 259 163 rfl i167_160 rfl rfl ?_ ?_
          · refine vLin 260 i167_259 rfl rfl ?_
            refine vCallI 263 [vi v26] [] [(0, vi v26)] i167_260 rfl (xlk1 l167_214) (Or.inr (Or.inl rfl)) m151 rfl rfl (Nat.le_of_ble_eq_true rfl) (Nat.le_of_ble_eq_true rfl) (Nat.le_of_ble_eq_true rfl) rfl rfl rfl (fun R1 => c_x8_isSignByte N   (by omega) s30 v26) (fun s32 v33 => ?_)
            refine vZeq 286 266 rfl i167_263 rfl rfl ?_ ?_
            · exact vR0 i167_286 m167
            · refine vLan 267 i167_266 rfl rfl ?_
              refine vK 268 i167_267 rfl ?_
              refine vPut 271 i167_268 p167_196 sh_77 rfl rfl (fun s34 => ?_)
              refine vLan 272 i167_271 rfl rfl ?_
              refine vLin 273 i167_272 rfl rfl ?_
              refine vPut 276 i167_273 p167_211 sh_77 rfl rfl (fun s35 => ?_)
              refine vLan 277 i167_276 rfl rfl ?_
              refine vD 278 i167_277 rfl rfl rfl ?_
              refine vGet 281 i167_278 f167_186 sh_77 rfl rfl ?_
              refine vK 282 i167_281 rfl ?_
              refine vIadd 283 i167_282 rfl ?_
              refine vPut 286 i167_283 p167_186 sh_77 rfl rfl (fun s36 => ?_)
              exact vR0 i167_286 m167
          · refine vK 164 i167_163 rfl ?_
            refine vSin0 165 [(2, vi 0), (1, vi v26), (0, .ref 77)] i167_164 m167 (by decide) rfl rfl ?_
            refine vLan 166 i167_165 rfl rfl ?_
            refine vK 167 i167_166 rfl ?_
            refine vPut 170 i167_167 p167_211 sh_77 rfl rfl (fun s37 => ?_)
            exact fun hD => tLc [(0, .ref 77), (2, vi 0)] (xNdk [0, 2] rfl (by decide)) (xNdk [2, 1, 0] rfl (by decide)) ⟨rfl, rfl, trivial⟩ (c_x8_next_170L N  hd  N s37 0 hD)
        · exact fun hD => tLc [(0, .ref 77)] (xNdk [0] rfl (by decide)) (xNdk [1, 0] rfl (by decide)) ⟨rfl, trivial⟩ (c_x8_next_95L N  hd  N s28  hD)
      · refine vLan 66 i167_65 rfl rfl ?_
        refine vK 67 i167_66 rfl ?_
        refine vPut 70 i167_67 p167_196 sh_77 rfl rfl (fun s38 => ?_)
        refine vLan 71 i167_70 rfl rfl ?_
        refine vLan 72 i167_71 rfl rfl ?_
        refine vGet 75 i167_72 f167_183 sh_77 rfl rfl ?_
        refine vPut 78 i167_75 p167_193 sh_77 rfl rfl (fun s39 => ?_)
        refine vGo 286 i167_78 rfl ?_
        exact vR0 i167_286 m167
    · exact fun hD => c_x8_next_26 N  hd k0 hk0 s22  hD
theorem c_x8_next_0L {sc : xS} {d : Nat} {R : Rs} (N : Nat)  (hd : 4 ≤ d)   : ∀ (n : Nat) (s : St) , d_x8_next_0L N  n s  = some R → vT sc d 167 0 [(0, .ref 77)] [] s (fun r => r = qV R) := by
  intro n
  induction n with
  | zero => intro s  hD; cases hD
  | succ n ih => intro s  hD; exact c_x8_next_0 N  hd  _ ih s  hD
def d_x8_next (N : Nat)  (s : St)  : Option Rs :=
  d_x8_next_0L N  N s 
set_option maxHeartbeats 4000000 in
set_option maxRecDepth 100000 in
theorem c_x8_next {sc : xS} {d : Nat} {R : Rs} (N : Nat)  (hd : 4 ≤ d)   (s : St)  : d_x8_next N  s  = some R → vT sc d 167 0 [(0, .ref 77)] [] s (fun r => r = qV R) := by
  obtain ⟨d, rfl⟩ : ∃ d', d = d' + 1 := ⟨d - 1, by omega⟩
  unfold d_x8_next
  exact fun hD => c_x8_next_0L N  hd  N s  hD
theorem f150_218 : xFld xg 150 218 = some (7, 24) := by decide +kernel
theorem f150_196 : xFld xg 150 196 = some (7, 21) := by decide +kernel
theorem f150_211 : xFld xg 150 211 = some (7, 23) := by decide +kernel
theorem i150_0 : xIns xg 150 0 = some (.aload_n 0) := by decide +kernel
theorem i150_1 : xIns xg 150 1 = some (.getfield 218) := by decide +kernel
theorem i150_4 : xIns xg 150 4 = some (.ifCond .ne 23) := by decide +kernel
theorem i150_27 : xIns xg 150 27 = some (.iconst 0) := by decide +kernel
theorem i150_28 : xIns xg 150 28 = some (.ireturn) := by decide +kernel
theorem m150 : (xMet xg 150).2.2 = (2, (some .boolean)) := by decide +kernel
theorem i150_7 : xIns xg 150 7 = some (.aload_n 0) := by decide +kernel
theorem i150_8 : xIns xg 150 8 = some (.getfield 196) := by decide +kernel
theorem i150_11 : xIns xg 150 11 = some (.iconst 3) := by decide +kernel
theorem i150_12 : xIns xg 150 12 = some (.if_icmp .ne 15) := by decide +kernel
theorem i150_15 : xIns xg 150 15 = some (.aload_n 0) := by decide +kernel
theorem i150_16 : xIns xg 150 16 = some (.getfield 211) := by decide +kernel
theorem i150_19 : xIns xg 150 19 = some (.iload_n 1) := by decide +kernel
theorem i150_20 : xIns xg 150 20 = some (.if_icmp .ne 7) := by decide +kernel
theorem i150_23 : xIns xg 150 23 = some (.iconst 1) := by decide +kernel
theorem i150_24 : xIns xg 150 24 = some (.goto 4) := by decide +kernel
def d_x8_isSign (N : Nat)  (s : St) (a0 : Int) : Option Rs :=
  (if (w32 (s 77 24)) = 0 then (if (w32 (s 77 21)) = 3 then (if (w32 (s 77 23)) = (w32 a0) then some (s, 1) else some (s, 0)) else some (s, 0)) else some (s, 0))
set_option maxHeartbeats 4000000 in
set_option maxRecDepth 100000 in
theorem c_x8_isSign {sc : xS} {d : Nat} {R : Rs} (N : Nat)  (hd : 0 ≤ d)   (s : St) (a0 : Int) : d_x8_isSign N  s a0 = some R → vT sc d 150 0 [(0, .ref 77), (1, vi a0)] [] s (fun r => r = qI R) := by
  unfold d_x8_isSign
  refine vLan 1 i150_0 rfl rfl ?_
  refine vGet 4 i150_1 f150_218 sh_77 rfl rfl ?_
  refine vZne 27 7 rfl i150_4 rfl rfl ?_ ?_
  · refine vK 28 i150_27 rfl ?_
    exact vRi i150_28 m150 (by decide)
  · refine vLan 8 i150_7 rfl rfl ?_
    refine vGet 11 i150_8 f150_196 sh_77 rfl rfl ?_
    refine vK 12 i150_11 rfl ?_
    refine vCne 27 15 rfl (show w32 3 = 3 from rfl) i150_12 rfl rfl ?_ ?_
    · refine vK 28 i150_27 rfl ?_
      exact vRi i150_28 m150 (by decide)
    · refine vLan 16 i150_15 rfl rfl ?_
      refine vGet 19 i150_16 f150_211 sh_77 rfl rfl ?_
      refine vLin 20 i150_19 rfl rfl ?_
      refine vCne 27 23 rfl rfl i150_20 rfl rfl ?_ ?_
      · refine vK 28 i150_27 rfl ?_
        exact vRi i150_28 m150 (by decide)
      · refine vK 24 i150_23 rfl ?_
        refine vGo 28 i150_24 rfl ?_
        exact vRi i150_28 m150 (by decide)
theorem f176_218 : xFld xg 176 218 = some (7, 24) := by decide +kernel
theorem f176_196 : xFld xg 176 196 = some (7, 21) := by decide +kernel
theorem f176_211 : xFld xg 176 211 = some (7, 23) := by decide +kernel
theorem i176_30 : xIns xg 176 30 = some (.aload_n 0) := by decide +kernel
theorem i176_31 : xIns xg 176 31 = some (.invokevirtual 245) := by decide +kernel
theorem i176_34 : xIns xg 176 34 = some (.lconst 0) := by decide +kernel
theorem i176_35 : xIns xg 176 35 = some (.lreturn) := by decide +kernel
theorem m176 : (xMet xg 176).2.2 = (5, (some .long)) := by decide +kernel
theorem i176_0 : xIns xg 176 0 = some (.aload_n 0) := by decide +kernel
theorem i176_1 : xIns xg 176 1 = some (.getfield 218) := by decide +kernel
theorem i176_4 : xIns xg 176 4 = some (.ifCond .ne 26) := by decide +kernel
theorem i176_7 : xIns xg 176 7 = some (.aload_n 0) := by decide +kernel
theorem i176_8 : xIns xg 176 8 = some (.getfield 196) := by decide +kernel
theorem i176_11 : xIns xg 176 11 = some (.iconst 2) := by decide +kernel
theorem i176_12 : xIns xg 176 12 = some (.if_icmp .ne 18) := by decide +kernel
theorem i176_15 : xIns xg 176 15 = some (.aload_n 0) := by decide +kernel
theorem i176_16 : xIns xg 176 16 = some (.getfield 211) := by decide +kernel
theorem i176_19 : xIns xg 176 19 = some (.i2l) := by decide +kernel
theorem i176_20 : xIns xg 176 20 = some (.iload_n 1) := by decide +kernel
theorem i176_21 : xIns xg 176 21 = some (.i2l) := by decide +kernel
theorem i176_22 : xIns xg 176 22 = some (.iload_n 2) := by decide +kernel
theorem i176_23 : xIns xg 176 23 = some (.i2l) := by decide +kernel
theorem i176_24 : xIns xg 176 24 = some (.invokestatic 177) := by decide +kernel
theorem i176_27 : xIns xg 176 27 = some (.ifCond .ne 9) := by decide +kernel
theorem i176_36 : xIns xg 176 36 = some (.aload_n 0) := by decide +kernel
theorem i176_37 : xIns xg 176 37 = some (.getfield 211) := by decide +kernel
theorem i176_40 : xIns xg 176 40 = some (.i2l) := by decide +kernel
theorem i176_41 : xIns xg 176 41 = some (.lstore_n 3) := by decide +kernel
theorem i176_42 : xIns xg 176 42 = some (.aload_n 0) := by decide +kernel
theorem i176_43 : xIns xg 176 43 = some (.invokevirtual 238) := by decide +kernel
theorem i176_46 : xIns xg 176 46 = some (.lload_n 3) := by decide +kernel
theorem i176_47 : xIns xg 176 47 = some (.lreturn) := by decide +kernel
def d_x8_plain_30 (N : Nat)  (s : St)  : Option Rs :=
  bV (d_x8_fail N  s ) fun s1 => some (s1, 0)
set_option maxHeartbeats 4000000 in
set_option maxRecDepth 100000 in
theorem c_x8_plain_30 {sc : xS} {d : Nat} {R : Rs} (N : Nat)  (hd : 5 ≤ d)   (s : St)  : d_x8_plain_30 N  s  = some R → vT sc d 176 30 [(0, .ref 77)] [] s (fun r => r = qL R) := by
  obtain ⟨d, rfl⟩ : ∃ d', d = d' + 1 := ⟨d - 1, by omega⟩
  unfold d_x8_plain_30
  refine vLan 31 i176_30 rfl rfl ?_
  refine vCallV 34 [.ref 77] [] [(0, .ref 77)] i176_31 rfl (xlk0 l176_245) (Or.inl rfl) m130 rfl rfl (Nat.le_of_ble_eq_true rfl) (Nat.le_of_ble_eq_true rfl) (Nat.le_of_ble_eq_true rfl) (xh0 sh_77 (by decide)) rfl rfl (fun R1 => c_x8_fail N   (by omega) s ) (fun s1 => ?_)
  refine vKl 35 0 i176_34 (by decide) rfl ?_
  exact vRl i176_35 m176
def d_x8_plain (N : Nat)  (s : St) (a0 : Int) (a1 : Int) : Option Rs :=
  (if (w32 (s 77 24)) = 0 then (if (w32 (s 77 21)) = 2 then bI (d_x8_in N  s (w32 (s 77 23)) (w32 a0) (w32 a1)) fun s3 v4 => (if (w32 v4) = 0 then d_x8_plain_30 N  s3  else bd (w32 (s3 77 23)) fun v5 => bV (d_x8_next N  s3 ) fun s6 => some (s6, v5)) else d_x8_plain_30 N  s ) else d_x8_plain_30 N  s )
set_option maxHeartbeats 4000000 in
set_option maxRecDepth 100000 in
theorem c_x8_plain {sc : xS} {d : Nat} {R : Rs} (N : Nat)  (hd : 5 ≤ d)   (s : St) (a0 : Int) (a1 : Int) : d_x8_plain N  s a0 a1 = some R → vT sc d 176 0 [(0, .ref 77), (1, vi a0), (2, vi a1)] [] s (fun r => r = qL R) := by
  obtain ⟨d, rfl⟩ : ∃ d', d = d' + 1 := ⟨d - 1, by omega⟩
  unfold d_x8_plain
  refine vLan 1 i176_0 rfl rfl ?_
  refine vGet 4 i176_1 f176_218 sh_77 rfl rfl ?_
  refine vZne 30 7 rfl i176_4 rfl rfl ?_ ?_
  · exact fun hD => tLc [(0, .ref 77)] (xNdk [0] rfl (by decide)) (xNdk [0, 1, 2] rfl (by decide)) ⟨rfl, trivial⟩ (c_x8_plain_30 N  hd  s  hD)
  · refine vLan 8 i176_7 rfl rfl ?_
    refine vGet 11 i176_8 f176_196 sh_77 rfl rfl ?_
    refine vK 12 i176_11 rfl ?_
    refine vCne 30 15 rfl (show w32 2 = 2 from rfl) i176_12 rfl rfl ?_ ?_
    · exact fun hD => tLc [(0, .ref 77)] (xNdk [0] rfl (by decide)) (xNdk [0, 1, 2] rfl (by decide)) ⟨rfl, trivial⟩ (c_x8_plain_30 N  hd  s  hD)
    · refine vLan 16 i176_15 rfl rfl ?_
      refine vGet 19 i176_16 f176_211 sh_77 rfl rfl ?_
      refine vI2l 20 i176_19 rfl ?_
      refine vLin 21 i176_20 rfl rfl ?_
      refine vI2l 22 i176_21 rfl ?_
      refine vLin 23 i176_22 rfl rfl ?_
      refine vI2l 24 i176_23 rfl ?_
      refine vCallI 27 [vl (w32 (s 77 23)), vl (w32 a0), vl (w32 a1)] [] [(0, vl (w32 (s 77 23))), (2, vl (w32 a0)), (4, vl (w32 a1))] i176_24 rfl (xlk1 l176_177) (Or.inr (Or.inl rfl)) m142 rfl rfl (Nat.le_of_ble_eq_true rfl) (Nat.le_of_ble_eq_true rfl) (Nat.le_of_ble_eq_true rfl) rfl rfl rfl (fun R1 => c_x8_in N   (by omega) s (w32 (s 77 23)) (w32 a0) (w32 a1)) (fun s3 v4 => ?_)
      refine vZne 36 30 rfl i176_27 rfl rfl ?_ ?_
      · refine vLan 37 i176_36 rfl rfl ?_
        refine vGet 40 i176_37 f176_211 sh_77 rfl rfl ?_
        refine vI2l 41 i176_40 rfl ?_
        refine vSln 42 (fun v5 => [(3, vl v5), (0, .ref 77), (1, vi a0), (2, vi a1)]) i176_41 m176 (by decide) (fun v5 => (rfl : xst2 [(0, .ref 77), (1, vi a0), (2, vi a1)] 3 (vl v5) = [(3, vl v5), (0, .ref 77), (1, vi a0), (2, vi a1)])) rfl (fun v5 => ?_)
        refine vLan 43 i176_42 rfl rfl ?_
        refine vCallV 46 [.ref 77] [] [(0, .ref 77)] i176_43 rfl (xlk0 l176_238) (Or.inl rfl) m167 rfl rfl (Nat.le_of_ble_eq_true rfl) (Nat.le_of_ble_eq_true rfl) (Nat.le_of_ble_eq_true rfl) (xh0 sh_77 (by decide)) rfl rfl (fun R1 => c_x8_next N   (by omega) s3 ) (fun s6 => ?_)
        refine vLln 47 i176_46 rfl rfl ?_
        exact vRl i176_47 m176
      · exact fun hD => tLc [(0, .ref 77)] (xNdk [0] rfl (by decide)) (xNdk [0, 1, 2] rfl (by decide)) ⟨rfl, trivial⟩ (c_x8_plain_30 N  hd  s3  hD)
theorem i168_15 : xIns xg 168 15 = some (.iload_n 1) := by decide +kernel
theorem i168_16 : xIns xg 168 16 = some (.ifCond .eq 15) := by decide +kernel
theorem i168_31 : xIns xg 168 31 = some (.aload_n 0) := by decide +kernel
theorem i168_32 : xIns xg 168 32 = some (.iconst 0) := by decide +kernel
theorem i168_33 : xIns xg 168 33 = some (.sipush 9999) := by decide +kernel
theorem i168_36 : xIns xg 168 36 = some (.invokevirtual 241) := by decide +kernel
theorem i168_39 : xIns xg 168 39 = some (.lreturn) := by decide +kernel
theorem m168 : (xMet xg 168).2.2 = (2, (some .long)) := by decide +kernel
theorem i168_19 : xIns xg 168 19 = some (.aload_n 0) := by decide +kernel
theorem i168_20 : xIns xg 168 20 = some (.iconst 0) := by decide +kernel
theorem i168_21 : xIns xg 168 21 = some (.sipush 9999) := by decide +kernel
theorem i168_24 : xIns xg 168 24 = some (.invokevirtual 241) := by decide +kernel
theorem i168_27 : xIns xg 168 27 = some (.lneg) := by decide +kernel
theorem i168_28 : xIns xg 168 28 = some (.goto 11) := by decide +kernel
theorem i168_0 : xIns xg 168 0 = some (.aload_n 0) := by decide +kernel
theorem i168_1 : xIns xg 168 1 = some (.bipush 45) := by decide +kernel
theorem i168_3 : xIns xg 168 3 = some (.invokevirtual 235) := by decide +kernel
theorem i168_6 : xIns xg 168 6 = some (.istore_n 1) := by decide +kernel
theorem i168_7 : xIns xg 168 7 = some (.iload_n 1) := by decide +kernel
theorem i168_8 : xIns xg 168 8 = some (.ifCond .eq 7) := by decide +kernel
theorem i168_11 : xIns xg 168 11 = some (.aload_n 0) := by decide +kernel
theorem i168_12 : xIns xg 168 12 = some (.invokevirtual 238) := by decide +kernel
def d_x8_num_15 (N : Nat)  (s : St) (x1 : Int) : Option Rs :=
  (if (w32 x1) = 0 then bI (d_x8_plain N  s 0 9999) fun s1 v2 => some (s1, v2) else bI (d_x8_plain N  s 0 9999) fun s3 v4 => some (s3, (-v4)))
set_option maxHeartbeats 4000000 in
set_option maxRecDepth 100000 in
theorem c_x8_num_15 {sc : xS} {d : Nat} {R : Rs} (N : Nat)  (hd : 6 ≤ d)   (s : St) (x1 : Int) : d_x8_num_15 N  s x1 = some R → vT sc d 168 15 [(0, .ref 77), (1, vi x1)] [] s (fun r => r = qL R) := by
  obtain ⟨d, rfl⟩ : ∃ d', d = d' + 1 := ⟨d - 1, by omega⟩
  unfold d_x8_num_15
  refine vLin 16 i168_15 rfl rfl ?_
  refine vZeq 31 19 rfl i168_16 rfl rfl ?_ ?_
  · refine vLan 32 i168_31 rfl rfl ?_
    refine vK 33 i168_32 rfl ?_
    refine vKs 36 i168_33 (by decide) rfl ?_
    refine vCallL 39 [.ref 77, vi 0, vi 9999] [] [(0, .ref 77), (1, vi 0), (2, vi 9999)] i168_36 rfl (xlk0 l168_241) (Or.inl rfl) m176 rfl rfl (Nat.le_of_ble_eq_true rfl) (Nat.le_of_ble_eq_true rfl) (Nat.le_of_ble_eq_true rfl) (xh0 sh_77 (by decide)) rfl rfl (fun R1 => c_x8_plain N   (by omega) s 0 9999) (fun s1 v2 => ?_)
    exact vRl i168_39 m168
  · refine vLan 20 i168_19 rfl rfl ?_
    refine vK 21 i168_20 rfl ?_
    refine vKs 24 i168_21 (by decide) rfl ?_
    refine vCallL 27 [.ref 77, vi 0, vi 9999] [] [(0, .ref 77), (1, vi 0), (2, vi 9999)] i168_24 rfl (xlk0 l168_241) (Or.inl rfl) m176 rfl rfl (Nat.le_of_ble_eq_true rfl) (Nat.le_of_ble_eq_true rfl) (Nat.le_of_ble_eq_true rfl) (xh0 sh_77 (by decide)) rfl rfl (fun R1 => c_x8_plain N   (by omega) s 0 9999) (fun s3 v4 => ?_)
    refine vLneg 28 i168_27 rfl ?_
    refine vGo 39 i168_28 rfl ?_
    exact vRl i168_39 m168
def d_x8_num (N : Nat)  (s : St)  : Option Rs :=
  bI (d_x8_isSign N  s 45) fun s5 v6 => (if (w32 v6) = 0 then d_x8_num_15 N  s5 v6 else bV (d_x8_next N  s5 ) fun s7 => d_x8_num_15 N  s7 v6)
set_option maxHeartbeats 4000000 in
set_option maxRecDepth 100000 in
theorem c_x8_num {sc : xS} {d : Nat} {R : Rs} (N : Nat)  (hd : 6 ≤ d)   (s : St)  : d_x8_num N  s  = some R → vT sc d 168 0 [(0, .ref 77)] [] s (fun r => r = qL R) := by
  obtain ⟨d, rfl⟩ : ∃ d', d = d' + 1 := ⟨d - 1, by omega⟩
  unfold d_x8_num
  refine vLan 1 i168_0 rfl rfl ?_
  refine vKb 3 i168_1 (by decide) rfl ?_
  refine vCallI 6 [.ref 77, vi 45] [] [(0, .ref 77), (1, vi 45)] i168_3 rfl (xlk0 l168_235) (Or.inl rfl) m150 rfl rfl (Nat.le_of_ble_eq_true rfl) (Nat.le_of_ble_eq_true rfl) (Nat.le_of_ble_eq_true rfl) (xh0 sh_77 (by decide)) rfl rfl (fun R1 => c_x8_isSign N   (by omega) s 45) (fun s5 v6 => ?_)
  refine vSin0 7 [(1, vi v6), (0, .ref 77)] i168_6 m168 (by decide) rfl rfl ?_
  refine vLin 8 i168_7 rfl rfl ?_
  refine vZeq 15 11 rfl i168_8 rfl rfl ?_ ?_
  · exact fun hD => tLc [(0, .ref 77), (1, vi v6)] (xNdk [0, 1] rfl (by decide)) (xNdk [1, 0] rfl (by decide)) ⟨rfl, rfl, trivial⟩ (c_x8_num_15 N  hd  s5 v6 hD)
  · refine vLan 12 i168_11 rfl rfl ?_
    refine vCallV 15 [.ref 77] [] [(0, .ref 77)] i168_12 rfl (xlk0 l168_238) (Or.inl rfl) m167 rfl rfl (Nat.le_of_ble_eq_true rfl) (Nat.le_of_ble_eq_true rfl) (Nat.le_of_ble_eq_true rfl) (xh0 sh_77 (by decide)) rfl rfl (fun R1 => c_x8_next N   (by omega) s5 ) (fun s7 => ?_)
    exact fun hD => tLc [(0, .ref 77), (1, vi v6)] (xNdk [0, 1] rfl (by decide)) (xNdk [1, 0] rfl (by decide)) ⟨rfl, rfl, trivial⟩ (c_x8_num_15 N  hd  s7 v6 hD)
theorem f164_88 : xFld xg 164 88 = some (7, 33) := by decide +kernel
theorem f164_85 : xFld xg 164 85 = some (7, 32) := by decide +kernel
theorem f164_218 : xFld xg 164 218 = some (7, 24) := by decide +kernel
theorem i164_20 : xIns xg 164 20 = some (.aload_n 0) := by decide +kernel
theorem i164_21 : xIns xg 164 21 = some (.bipush 44) := by decide +kernel
theorem i164_23 : xIns xg 164 23 = some (.invokevirtual 235) := by decide +kernel
theorem i164_26 : xIns xg 164 26 = some (.ifCond .eq 65) := by decide +kernel
theorem i164_91 : xIns xg 164 91 = some (.return_) := by decide +kernel
theorem m164 : (xMet xg 164).2.2 = (2, none) := by decide +kernel
theorem i164_29 : xIns xg 164 29 = some (.aload_n 0) := by decide +kernel
theorem i164_30 : xIns xg 164 30 = some (.getfield 218) := by decide +kernel
theorem i164_33 : xIns xg 164 33 = some (.ifCond .ne 58) := by decide +kernel
theorem i164_36 : xIns xg 164 36 = some (.aload_n 0) := by decide +kernel
theorem i164_37 : xIns xg 164 37 = some (.getfield 85) := by decide +kernel
theorem i164_40 : xIns xg 164 40 = some (.iload_n 1) := by decide +kernel
theorem i164_41 : xIns xg 164 41 = some (.iaload) := by decide +kernel
theorem i164_42 : xIns xg 164 42 = some (.bipush 8) := by decide +kernel
theorem i164_44 : xIns xg 164 44 = some (.if_icmp .ne 10) := by decide +kernel
theorem i164_54 : xIns xg 164 54 = some (.aload_n 0) := by decide +kernel
theorem i164_55 : xIns xg 164 55 = some (.invokevirtual 238) := by decide +kernel
theorem i164_58 : xIns xg 164 58 = some (.aload_n 0) := by decide +kernel
theorem i164_59 : xIns xg 164 59 = some (.getfield 88) := by decide +kernel
theorem i164_62 : xIns xg 164 62 = some (.bipush 8) := by decide +kernel
theorem i164_64 : xIns xg 164 64 = some (.iload_n 1) := by decide +kernel
theorem i164_65 : xIns xg 164 65 = some (.imul) := by decide +kernel
theorem i164_66 : xIns xg 164 66 = some (.aload_n 0) := by decide +kernel
theorem i164_67 : xIns xg 164 67 = some (.getfield 85) := by decide +kernel
theorem i164_70 : xIns xg 164 70 = some (.iload_n 1) := by decide +kernel
theorem i164_71 : xIns xg 164 71 = some (.iaload) := by decide +kernel
theorem i164_72 : xIns xg 164 72 = some (.iadd) := by decide +kernel
theorem i164_73 : xIns xg 164 73 = some (.aload_n 0) := by decide +kernel
theorem i164_74 : xIns xg 164 74 = some (.invokevirtual 255) := by decide +kernel
theorem i164_77 : xIns xg 164 77 = some (.lastore) := by decide +kernel
theorem i164_78 : xIns xg 164 78 = some (.aload_n 0) := by decide +kernel
theorem i164_79 : xIns xg 164 79 = some (.getfield 85) := by decide +kernel
theorem i164_82 : xIns xg 164 82 = some (.iload_n 1) := by decide +kernel
theorem i164_83 : xIns xg 164 83 = some (.dup2) := by decide +kernel
theorem i164_84 : xIns xg 164 84 = some (.iaload) := by decide +kernel
theorem i164_85 : xIns xg 164 85 = some (.iconst 1) := by decide +kernel
theorem i164_86 : xIns xg 164 86 = some (.iadd) := by decide +kernel
theorem i164_87 : xIns xg 164 87 = some (.iastore) := by decide +kernel
theorem i164_88 : xIns xg 164 88 = some (.goto (-68)) := by decide +kernel
theorem i164_47 : xIns xg 164 47 = some (.aload_n 0) := by decide +kernel
theorem i164_48 : xIns xg 164 48 = some (.invokevirtual 245) := by decide +kernel
theorem i164_51 : xIns xg 164 51 = some (.goto (-31)) := by decide +kernel
theorem i164_0 : xIns xg 164 0 = some (.aload_n 0) := by decide +kernel
theorem i164_1 : xIns xg 164 1 = some (.getfield 88) := by decide +kernel
theorem i164_4 : xIns xg 164 4 = some (.bipush 8) := by decide +kernel
theorem i164_6 : xIns xg 164 6 = some (.iload_n 1) := by decide +kernel
theorem i164_7 : xIns xg 164 7 = some (.imul) := by decide +kernel
theorem i164_8 : xIns xg 164 8 = some (.aload_n 0) := by decide +kernel
theorem i164_9 : xIns xg 164 9 = some (.invokevirtual 255) := by decide +kernel
theorem i164_12 : xIns xg 164 12 = some (.lastore) := by decide +kernel
theorem i164_13 : xIns xg 164 13 = some (.aload_n 0) := by decide +kernel
theorem i164_14 : xIns xg 164 14 = some (.getfield 85) := by decide +kernel
theorem i164_17 : xIns xg 164 17 = some (.iload_n 1) := by decide +kernel
theorem i164_18 : xIns xg 164 18 = some (.iconst 1) := by decide +kernel
theorem i164_19 : xIns xg 164 19 = some (.iastore) := by decide +kernel
def d_x8_list_20 (N : Nat)  (k20 : St → Int → Option Rs) (s : St) (x1 : Int) : Option Rs :=
  bI (d_x8_isSign N  s 44) fun s1 v2 => (if (w32 v2) = 0 then some (s1, 0) else (if (w32 (s1 77 24)) = 0 then if 0 ≤ (w32 x1) ∧ (w32 x1) < ((24 : Nat) : Int) then (if (w32 (s1 100 (Int.toNat (w32 x1)))) = 8 then bV (d_x8_fail N  s1 ) fun s9 => k20 s9 x1 else bV (d_x8_next N  s1 ) fun s3 => if 0 ≤ (w32 x1) ∧ (w32 x1) < ((24 : Nat) : Int) then bI (d_x8_num N  s3 ) fun s5 v6 => if 0 ≤ (w32 ((8 * x1) + (s3 100 (Int.toNat (w32 x1))))) ∧ (w32 ((8 * x1) + (s3 100 (Int.toNat (w32 x1))))) < ((192 : Nat) : Int) then bd (up s5 101 (Int.toNat (w32 ((8 * x1) + (s3 100 (Int.toNat (w32 x1)))))) v6) fun s7 => if 0 ≤ (w32 x1) ∧ (w32 x1) < ((24 : Nat) : Int) then if 0 ≤ (w32 x1) ∧ (w32 x1) < ((24 : Nat) : Int) then bd (up s7 100 (Int.toNat (w32 x1)) ((s7 100 (Int.toNat (w32 x1))) + 1)) fun s8 => k20 s8 x1 else none else none else none else none) else none else some (s1, 0)))
def d_x8_list_20L (N : Nat)  : Nat → St → Int → Option Rs
  | 0 => fun _ _ => none
  | n + 1 => d_x8_list_20 N  (d_x8_list_20L N  n)
set_option maxHeartbeats 4000000 in
set_option maxRecDepth 100000 in
theorem c_x8_list_20 {sc : xS} {d : Nat} {R : Rs} (N : Nat)  (hd : 7 ≤ d)   (k20 : St → Int → Option Rs) (hk20 : ∀ (s : St) (x1 : Int), k20 s x1 = some R → vT sc d 164 20 [(0, .ref 77), (1, vi x1)] [] s (fun r => r = qV R)) (s : St) (x1 : Int) : d_x8_list_20 N  k20 s x1 = some R → vT sc d 164 20 [(0, .ref 77), (1, vi x1)] [] s (fun r => r = qV R) := by
  obtain ⟨d, rfl⟩ : ∃ d', d = d' + 1 := ⟨d - 1, by omega⟩
  unfold d_x8_list_20
  refine vLan 21 i164_20 rfl rfl ?_
  refine vKb 23 i164_21 (by decide) rfl ?_
  refine vCallI 26 [.ref 77, vi 44] [] [(0, .ref 77), (1, vi 44)] i164_23 rfl (xlk0 l164_235) (Or.inl rfl) m150 rfl rfl (Nat.le_of_ble_eq_true rfl) (Nat.le_of_ble_eq_true rfl) (Nat.le_of_ble_eq_true rfl) (xh0 sh_77 (by decide)) rfl rfl (fun R1 => c_x8_isSign N   (by omega) s 44) (fun s1 v2 => ?_)
  refine vZeq 91 29 rfl i164_26 rfl rfl ?_ ?_
  · exact vR0 i164_91 m164
  · refine vLan 30 i164_29 rfl rfl ?_
    refine vGet 33 i164_30 f164_218 sh_77 rfl rfl ?_
    refine vZne 91 36 rfl i164_33 rfl rfl ?_ ?_
    · exact vR0 i164_91 m164
    · refine vLan 37 i164_36 rfl rfl ?_
      refine vGetC 40 i164_37 f164_85 sh_77 rfl rfl ?_
      refine vLin 41 i164_40 rfl rfl ?_
      refine vIal 42 rfl i164_41 sh_100 rfl ?_
      refine vKb 44 i164_42 (by decide) rfl ?_
      refine vCne 54 47 rfl (show w32 8 = 8 from rfl) i164_44 rfl rfl ?_ ?_
      · refine vLan 55 i164_54 rfl rfl ?_
        refine vCallV 58 [.ref 77] [] [(0, .ref 77)] i164_55 rfl (xlk0 l164_238) (Or.inl rfl) m167 rfl rfl (Nat.le_of_ble_eq_true rfl) (Nat.le_of_ble_eq_true rfl) (Nat.le_of_ble_eq_true rfl) (xh0 sh_77 (by decide)) rfl rfl (fun R1 => c_x8_next N   (by omega) s1 ) (fun s3 => ?_)
        refine vLan 59 i164_58 rfl rfl ?_
        refine vGetC 62 i164_59 f164_88 sh_77 rfl rfl ?_
        refine vKb 64 i164_62 (by decide) rfl ?_
        refine vLin 65 i164_64 rfl rfl ?_
        refine vImul 66 i164_65 rfl ?_
        refine vLan 67 i164_66 rfl rfl ?_
        refine vGetC 70 i164_67 f164_85 sh_77 rfl rfl ?_
        refine vLin 71 i164_70 rfl rfl ?_
        refine vIal 72 rfl i164_71 sh_100 rfl ?_
        refine vIadd 73 i164_72 rfl ?_
        refine vLan 74 i164_73 rfl rfl ?_
        refine vCallL 77 [.ref 77] [vi ((8 * x1) + (s3 100 (Int.toNat (w32 x1)))), .ref 101] [(0, .ref 77)] i164_74 rfl (xlk0 l164_255) (Or.inl rfl) m168 rfl rfl (Nat.le_of_ble_eq_true rfl) (Nat.le_of_ble_eq_true rfl) (Nat.le_of_ble_eq_true rfl) (xh0 sh_77 (by decide)) rfl rfl (fun R1 => c_x8_num N   (by omega) s3 ) (fun s5 v6 => ?_)
        refine vLas 78 rfl i164_77 sh_101 rfl (fun s7 => ?_)
        refine vLan 79 i164_78 rfl rfl ?_
        refine vGetC 82 i164_79 f164_85 sh_77 rfl rfl ?_
        refine vLin 83 i164_82 rfl rfl ?_
        refine vD 84 i164_83 rfl rfl rfl ?_
        refine vIal 85 rfl i164_84 sh_100 rfl ?_
        refine vK 86 i164_85 rfl ?_
        refine vIadd 87 i164_86 rfl ?_
        refine vIas 88 rfl i164_87 sh_100 rfl (fun s8 => ?_)
        refine vGo 20 i164_88 rfl ?_
        exact fun hD => hk20 s8 x1 hD
      · refine vLan 48 i164_47 rfl rfl ?_
        refine vCallV 51 [.ref 77] [] [(0, .ref 77)] i164_48 rfl (xlk0 l164_245) (Or.inl rfl) m130 rfl rfl (Nat.le_of_ble_eq_true rfl) (Nat.le_of_ble_eq_true rfl) (Nat.le_of_ble_eq_true rfl) (xh0 sh_77 (by decide)) rfl rfl (fun R1 => c_x8_fail N   (by omega) s1 ) (fun s9 => ?_)
        refine vGo 20 i164_51 rfl ?_
        exact fun hD => hk20 s9 x1 hD
theorem c_x8_list_20L {sc : xS} {d : Nat} {R : Rs} (N : Nat)  (hd : 7 ≤ d)   : ∀ (n : Nat) (s : St) (x1 : Int), d_x8_list_20L N  n s x1 = some R → vT sc d 164 20 [(0, .ref 77), (1, vi x1)] [] s (fun r => r = qV R) := by
  intro n
  induction n with
  | zero => intro s x1 hD; cases hD
  | succ n ih => intro s x1 hD; exact c_x8_list_20 N  hd  _ ih s x1 hD
def d_x8_list (N : Nat)  (s : St) (a0 : Int) : Option Rs :=
  bI (d_x8_num N  s ) fun s11 v12 => if 0 ≤ (w32 (8 * a0)) ∧ (w32 (8 * a0)) < ((192 : Nat) : Int) then bd (up s11 101 (Int.toNat (w32 (8 * a0))) v12) fun s13 => if 0 ≤ (w32 a0) ∧ (w32 a0) < ((24 : Nat) : Int) then bd (up s13 100 (Int.toNat (w32 a0)) 1) fun s14 => d_x8_list_20L N  N s14 a0 else none else none
set_option maxHeartbeats 4000000 in
set_option maxRecDepth 100000 in
theorem c_x8_list {sc : xS} {d : Nat} {R : Rs} (N : Nat)  (hd : 7 ≤ d)   (s : St) (a0 : Int) : d_x8_list N  s a0 = some R → vT sc d 164 0 [(0, .ref 77), (1, vi a0)] [] s (fun r => r = qV R) := by
  obtain ⟨d, rfl⟩ : ∃ d', d = d' + 1 := ⟨d - 1, by omega⟩
  unfold d_x8_list
  refine vLan 1 i164_0 rfl rfl ?_
  refine vGetC 4 i164_1 f164_88 sh_77 rfl rfl ?_
  refine vKb 6 i164_4 (by decide) rfl ?_
  refine vLin 7 i164_6 rfl rfl ?_
  refine vImul 8 i164_7 rfl ?_
  refine vLan 9 i164_8 rfl rfl ?_
  refine vCallL 12 [.ref 77] [vi (8 * a0), .ref 101] [(0, .ref 77)] i164_9 rfl (xlk0 l164_255) (Or.inl rfl) m168 rfl rfl (Nat.le_of_ble_eq_true rfl) (Nat.le_of_ble_eq_true rfl) (Nat.le_of_ble_eq_true rfl) (xh0 sh_77 (by decide)) rfl rfl (fun R1 => c_x8_num N   (by omega) s ) (fun s11 v12 => ?_)
  refine vLas 13 rfl i164_12 sh_101 rfl (fun s13 => ?_)
  refine vLan 14 i164_13 rfl rfl ?_
  refine vGetC 17 i164_14 f164_85 sh_77 rfl rfl ?_
  refine vLin 18 i164_17 rfl rfl ?_
  refine vK 19 i164_18 rfl ?_
  refine vIas 20 rfl i164_19 sh_100 rfl (fun s14 => ?_)
  exact fun hD => c_x8_list_20L N  hd  N s14 a0 hD
theorem f170_211 : xFld xg 170 211 = some (7, 23) := by decide +kernel
theorem f170_218 : xFld xg 170 218 = some (7, 24) := by decide +kernel
theorem i170_107 : xIns xg 170 107 = some (.aload_n 0) := by decide +kernel
theorem i170_108 : xIns xg 170 108 = some (.getfield 211) := by decide +kernel
theorem i170_111 : xIns xg 170 111 = some (.istore_n 3) := by decide +kernel
theorem m170 : (xMet xg 170).2.2 = (4, (some .int)) := by decide +kernel
theorem i170_112 : xIns xg 170 112 = some (.aload_n 0) := by decide +kernel
theorem i170_113 : xIns xg 170 113 = some (.getfield 218) := by decide +kernel
theorem i170_116 : xIns xg 170 116 = some (.ifCond .ne 7) := by decide +kernel
theorem i170_123 : xIns xg 170 123 = some (.iload_n 3) := by decide +kernel
theorem i170_124 : xIns xg 170 124 = some (.ireturn) := by decide +kernel
theorem i170_119 : xIns xg 170 119 = some (.aload_n 0) := by decide +kernel
theorem i170_120 : xIns xg 170 120 = some (.invokevirtual 238) := by decide +kernel
theorem i170_98 : xIns xg 170 98 = some (.istore_n 2) := by decide +kernel
theorem i170_99 : xIns xg 170 99 = some (.iload_n 2) := by decide +kernel
theorem i170_100 : xIns xg 170 100 = some (.ifCond .ne 7) := by decide +kernel
theorem i170_103 : xIns xg 170 103 = some (.aload_n 0) := by decide +kernel
theorem i170_104 : xIns xg 170 104 = some (.invokevirtual 245) := by decide +kernel
theorem i170_93 : xIns xg 170 93 = some (.iconst 1) := by decide +kernel
theorem i170_94 : xIns xg 170 94 = some (.goto 4) := by decide +kernel
theorem i170_40 : xIns xg 170 40 = some (.iconst 1) := by decide +kernel
theorem i170_41 : xIns xg 170 41 = some (.goto 57) := by decide +kernel
theorem i170_0 : xIns xg 170 0 = some (.iload_n 1) := by decide +kernel
theorem i170_1 : xIns xg 170 1 = some (.ifCond .eq 47) := by decide +kernel
theorem i170_48 : xIns xg 170 48 = some (.aload_n 0) := by decide +kernel
theorem i170_49 : xIns xg 170 49 = some (.bipush 43) := by decide +kernel
theorem i170_51 : xIns xg 170 51 = some (.invokevirtual 235) := by decide +kernel
theorem i170_54 : xIns xg 170 54 = some (.ifCond .ne 39) := by decide +kernel
theorem i170_57 : xIns xg 170 57 = some (.aload_n 0) := by decide +kernel
theorem i170_58 : xIns xg 170 58 = some (.bipush 45) := by decide +kernel
theorem i170_60 : xIns xg 170 60 = some (.invokevirtual 235) := by decide +kernel
theorem i170_63 : xIns xg 170 63 = some (.ifCond .ne 30) := by decide +kernel
theorem i170_66 : xIns xg 170 66 = some (.aload_n 0) := by decide +kernel
theorem i170_67 : xIns xg 170 67 = some (.bipush 42) := by decide +kernel
theorem i170_69 : xIns xg 170 69 = some (.invokevirtual 235) := by decide +kernel
theorem i170_72 : xIns xg 170 72 = some (.ifCond .ne 21) := by decide +kernel
theorem i170_75 : xIns xg 170 75 = some (.aload_n 0) := by decide +kernel
theorem i170_76 : xIns xg 170 76 = some (.bipush 47) := by decide +kernel
theorem i170_78 : xIns xg 170 78 = some (.invokevirtual 235) := by decide +kernel
theorem i170_81 : xIns xg 170 81 = some (.ifCond .ne 12) := by decide +kernel
theorem i170_84 : xIns xg 170 84 = some (.aload_n 0) := by decide +kernel
theorem i170_85 : xIns xg 170 85 = some (.bipush 37) := by decide +kernel
theorem i170_87 : xIns xg 170 87 = some (.invokevirtual 235) := by decide +kernel
theorem i170_90 : xIns xg 170 90 = some (.ifCond .eq 7) := by decide +kernel
theorem i170_97 : xIns xg 170 97 = some (.iconst 0) := by decide +kernel
theorem i170_4 : xIns xg 170 4 = some (.aload_n 0) := by decide +kernel
theorem i170_5 : xIns xg 170 5 = some (.bipush 60) := by decide +kernel
theorem i170_7 : xIns xg 170 7 = some (.invokevirtual 235) := by decide +kernel
theorem i170_10 : xIns xg 170 10 = some (.ifCond .ne 30) := by decide +kernel
theorem i170_13 : xIns xg 170 13 = some (.aload_n 0) := by decide +kernel
theorem i170_14 : xIns xg 170 14 = some (.bipush 62) := by decide +kernel
theorem i170_16 : xIns xg 170 16 = some (.invokevirtual 235) := by decide +kernel
theorem i170_19 : xIns xg 170 19 = some (.ifCond .ne 21) := by decide +kernel
theorem i170_22 : xIns xg 170 22 = some (.aload_n 0) := by decide +kernel
theorem i170_23 : xIns xg 170 23 = some (.bipush 61) := by decide +kernel
theorem i170_25 : xIns xg 170 25 = some (.invokevirtual 235) := by decide +kernel
theorem i170_28 : xIns xg 170 28 = some (.ifCond .ne 12) := by decide +kernel
theorem i170_31 : xIns xg 170 31 = some (.aload_n 0) := by decide +kernel
theorem i170_32 : xIns xg 170 32 = some (.bipush 37) := by decide +kernel
theorem i170_34 : xIns xg 170 34 = some (.invokevirtual 235) := by decide +kernel
theorem i170_37 : xIns xg 170 37 = some (.ifCond .eq 7) := by decide +kernel
theorem i170_44 : xIns xg 170 44 = some (.iconst 0) := by decide +kernel
theorem i170_45 : xIns xg 170 45 = some (.goto 53) := by decide +kernel
def d_x8_op_107 (N : Nat)  (s : St)  : Option Rs :=
  bd (s 77 23) fun v1 => (if (w32 (s 77 24)) = 0 then bV (d_x8_next N  s ) fun s2 => some (s2, v1) else some (s, v1))
set_option maxHeartbeats 4000000 in
set_option maxRecDepth 100000 in
theorem c_x8_op_107 {sc : xS} {d : Nat} {R : Rs} (N : Nat)  (hd : 5 ≤ d)   (s : St)  : d_x8_op_107 N  s  = some R → vT sc d 170 107 [(0, .ref 77)] [] s (fun r => r = qI R) := by
  obtain ⟨d, rfl⟩ : ∃ d', d = d' + 1 := ⟨d - 1, by omega⟩
  unfold d_x8_op_107
  refine vLan 108 i170_107 rfl rfl ?_
  refine vGet 111 i170_108 f170_211 sh_77 rfl rfl ?_
  refine vSin 112 (fun v1 => [(3, vi v1), (0, .ref 77)]) i170_111 m170 (by decide) (fun v1 => (rfl : xst1 [(0, .ref 77)] 3 (vi v1) = [(3, vi v1), (0, .ref 77)])) rfl (fun v1 => ?_)
  refine vLan 113 i170_112 rfl rfl ?_
  refine vGet 116 i170_113 f170_218 sh_77 rfl rfl ?_
  refine vZne 123 119 rfl i170_116 rfl rfl ?_ ?_
  · refine vLin 124 i170_123 rfl rfl ?_
    exact vRi i170_124 m170 rfl
  · refine vLan 120 i170_119 rfl rfl ?_
    refine vCallV 123 [.ref 77] [] [(0, .ref 77)] i170_120 rfl (xlk0 l170_238) (Or.inl rfl) m167 rfl rfl (Nat.le_of_ble_eq_true rfl) (Nat.le_of_ble_eq_true rfl) (Nat.le_of_ble_eq_true rfl) (xh0 sh_77 (by decide)) rfl rfl (fun R1 => c_x8_next N   (by omega) s ) (fun s2 => ?_)
    refine vLin 124 i170_123 rfl rfl ?_
    exact vRi i170_124 m170 rfl
def d_x8_op_98 (N : Nat)  (s : St) (z0 : Int) : Option Rs :=
  (if (w32 z0) = 0 then bV (d_x8_fail N  s ) fun s4 => d_x8_op_107 N  s4  else d_x8_op_107 N  s )
set_option maxHeartbeats 4000000 in
set_option maxRecDepth 100000 in
theorem c_x8_op_98 {sc : xS} {d : Nat} {R : Rs} (N : Nat)  (hd : 5 ≤ d)   (s : St) (z0 : Int) : d_x8_op_98 N  s z0 = some R → vT sc d 170 98 [(0, .ref 77)] [vi z0] s (fun r => r = qI R) := by
  obtain ⟨d, rfl⟩ : ∃ d', d = d' + 1 := ⟨d - 1, by omega⟩
  unfold d_x8_op_98
  refine vSin0 99 [(2, vi z0), (0, .ref 77)] i170_98 m170 (by decide) rfl rfl ?_
  refine vLin 100 i170_99 rfl rfl ?_
  refine vZne 107 103 rfl i170_100 rfl rfl ?_ ?_
  · exact fun hD => tLc [(0, .ref 77)] (xNdk [0] rfl (by decide)) (xNdk [2, 0] rfl (by decide)) ⟨rfl, trivial⟩ (c_x8_op_107 N  hd  s  hD)
  · refine vLan 104 i170_103 rfl rfl ?_
    refine vCallV 107 [.ref 77] [] [(0, .ref 77)] i170_104 rfl (xlk0 l170_245) (Or.inl rfl) m130 rfl rfl (Nat.le_of_ble_eq_true rfl) (Nat.le_of_ble_eq_true rfl) (Nat.le_of_ble_eq_true rfl) (xh0 sh_77 (by decide)) rfl rfl (fun R1 => c_x8_fail N   (by omega) s ) (fun s4 => ?_)
    exact fun hD => tLc [(0, .ref 77)] (xNdk [0] rfl (by decide)) (xNdk [2, 0] rfl (by decide)) ⟨rfl, trivial⟩ (c_x8_op_107 N  hd  s4  hD)
def d_x8_op_93 (N : Nat)  (s : St)  : Option Rs :=
  d_x8_op_98 N  s 1
set_option maxHeartbeats 4000000 in
set_option maxRecDepth 100000 in
theorem c_x8_op_93 {sc : xS} {d : Nat} {R : Rs} (N : Nat)  (hd : 5 ≤ d)   (s : St)  : d_x8_op_93 N  s  = some R → vT sc d 170 93 [(0, .ref 77)] [] s (fun r => r = qI R) := by
  obtain ⟨d, rfl⟩ : ∃ d', d = d' + 1 := ⟨d - 1, by omega⟩
  unfold d_x8_op_93
  refine vK 94 i170_93 rfl ?_
  refine vGo 98 i170_94 rfl ?_
  exact fun hD => c_x8_op_98 N  hd  s 1 hD
def d_x8_op_40 (N : Nat)  (s : St)  : Option Rs :=
  d_x8_op_98 N  s 1
set_option maxHeartbeats 4000000 in
set_option maxRecDepth 100000 in
theorem c_x8_op_40 {sc : xS} {d : Nat} {R : Rs} (N : Nat)  (hd : 5 ≤ d)   (s : St)  : d_x8_op_40 N  s  = some R → vT sc d 170 40 [(0, .ref 77)] [] s (fun r => r = qI R) := by
  obtain ⟨d, rfl⟩ : ∃ d', d = d' + 1 := ⟨d - 1, by omega⟩
  unfold d_x8_op_40
  refine vK 41 i170_40 rfl ?_
  refine vGo 98 i170_41 rfl ?_
  exact fun hD => c_x8_op_98 N  hd  s 1 hD
def d_x8_op (N : Nat)  (s : St) (a0 : Int) : Option Rs :=
  (if (w32 a0) = 0 then bI (d_x8_isSign N  s 43) fun s6 v7 => (if (w32 v7) = 0 then bI (d_x8_isSign N  s6 45) fun s8 v9 => (if (w32 v9) = 0 then bI (d_x8_isSign N  s8 42) fun s10 v11 => (if (w32 v11) = 0 then bI (d_x8_isSign N  s10 47) fun s12 v13 => (if (w32 v13) = 0 then bI (d_x8_isSign N  s12 37) fun s14 v15 => (if (w32 v15) = 0 then d_x8_op_98 N  s14 0 else d_x8_op_93 N  s14 ) else d_x8_op_93 N  s12 ) else d_x8_op_93 N  s10 ) else d_x8_op_93 N  s8 ) else d_x8_op_93 N  s6 ) else bI (d_x8_isSign N  s 60) fun s16 v17 => (if (w32 v17) = 0 then bI (d_x8_isSign N  s16 62) fun s18 v19 => (if (w32 v19) = 0 then bI (d_x8_isSign N  s18 61) fun s20 v21 => (if (w32 v21) = 0 then bI (d_x8_isSign N  s20 37) fun s22 v23 => (if (w32 v23) = 0 then d_x8_op_98 N  s22 0 else d_x8_op_40 N  s22 ) else d_x8_op_40 N  s20 ) else d_x8_op_40 N  s18 ) else d_x8_op_40 N  s16 ))
set_option maxHeartbeats 4000000 in
set_option maxRecDepth 100000 in
theorem c_x8_op {sc : xS} {d : Nat} {R : Rs} (N : Nat)  (hd : 5 ≤ d)   (s : St) (a0 : Int) : d_x8_op N  s a0 = some R → vT sc d 170 0 [(0, .ref 77), (1, vi a0)] [] s (fun r => r = qI R) := by
  obtain ⟨d, rfl⟩ : ∃ d', d = d' + 1 := ⟨d - 1, by omega⟩
  unfold d_x8_op
  refine vLin 1 i170_0 rfl rfl ?_
  refine vZeq 48 4 rfl i170_1 rfl rfl ?_ ?_
  · refine vLan 49 i170_48 rfl rfl ?_
    refine vKb 51 i170_49 (by decide) rfl ?_
    refine vCallI 54 [.ref 77, vi 43] [] [(0, .ref 77), (1, vi 43)] i170_51 rfl (xlk0 l170_235) (Or.inl rfl) m150 rfl rfl (Nat.le_of_ble_eq_true rfl) (Nat.le_of_ble_eq_true rfl) (Nat.le_of_ble_eq_true rfl) (xh0 sh_77 (by decide)) rfl rfl (fun R1 => c_x8_isSign N   (by omega) s 43) (fun s6 v7 => ?_)
    refine vZne 93 57 rfl i170_54 rfl rfl ?_ ?_
    · exact fun hD => tLc [(0, .ref 77)] (xNdk [0] rfl (by decide)) (xNdk [0, 1] rfl (by decide)) ⟨rfl, trivial⟩ (c_x8_op_93 N  hd  s6  hD)
    · refine vLan 58 i170_57 rfl rfl ?_
      refine vKb 60 i170_58 (by decide) rfl ?_
      refine vCallI 63 [.ref 77, vi 45] [] [(0, .ref 77), (1, vi 45)] i170_60 rfl (xlk0 l170_235) (Or.inl rfl) m150 rfl rfl (Nat.le_of_ble_eq_true rfl) (Nat.le_of_ble_eq_true rfl) (Nat.le_of_ble_eq_true rfl) (xh0 sh_77 (by decide)) rfl rfl (fun R1 => c_x8_isSign N   (by omega) s6 45) (fun s8 v9 => ?_)
      refine vZne 93 66 rfl i170_63 rfl rfl ?_ ?_
      · exact fun hD => tLc [(0, .ref 77)] (xNdk [0] rfl (by decide)) (xNdk [0, 1] rfl (by decide)) ⟨rfl, trivial⟩ (c_x8_op_93 N  hd  s8  hD)
      · refine vLan 67 i170_66 rfl rfl ?_
        refine vKb 69 i170_67 (by decide) rfl ?_
        refine vCallI 72 [.ref 77, vi 42] [] [(0, .ref 77), (1, vi 42)] i170_69 rfl (xlk0 l170_235) (Or.inl rfl) m150 rfl rfl (Nat.le_of_ble_eq_true rfl) (Nat.le_of_ble_eq_true rfl) (Nat.le_of_ble_eq_true rfl) (xh0 sh_77 (by decide)) rfl rfl (fun R1 => c_x8_isSign N   (by omega) s8 42) (fun s10 v11 => ?_)
        refine vZne 93 75 rfl i170_72 rfl rfl ?_ ?_
        · exact fun hD => tLc [(0, .ref 77)] (xNdk [0] rfl (by decide)) (xNdk [0, 1] rfl (by decide)) ⟨rfl, trivial⟩ (c_x8_op_93 N  hd  s10  hD)
        · refine vLan 76 i170_75 rfl rfl ?_
          refine vKb 78 i170_76 (by decide) rfl ?_
          refine vCallI 81 [.ref 77, vi 47] [] [(0, .ref 77), (1, vi 47)] i170_78 rfl (xlk0 l170_235) (Or.inl rfl) m150 rfl rfl (Nat.le_of_ble_eq_true rfl) (Nat.le_of_ble_eq_true rfl) (Nat.le_of_ble_eq_true rfl) (xh0 sh_77 (by decide)) rfl rfl (fun R1 => c_x8_isSign N   (by omega) s10 47) (fun s12 v13 => ?_)
          refine vZne 93 84 rfl i170_81 rfl rfl ?_ ?_
          · exact fun hD => tLc [(0, .ref 77)] (xNdk [0] rfl (by decide)) (xNdk [0, 1] rfl (by decide)) ⟨rfl, trivial⟩ (c_x8_op_93 N  hd  s12  hD)
          · refine vLan 85 i170_84 rfl rfl ?_
            refine vKb 87 i170_85 (by decide) rfl ?_
            refine vCallI 90 [.ref 77, vi 37] [] [(0, .ref 77), (1, vi 37)] i170_87 rfl (xlk0 l170_235) (Or.inl rfl) m150 rfl rfl (Nat.le_of_ble_eq_true rfl) (Nat.le_of_ble_eq_true rfl) (Nat.le_of_ble_eq_true rfl) (xh0 sh_77 (by decide)) rfl rfl (fun R1 => c_x8_isSign N   (by omega) s12 37) (fun s14 v15 => ?_)
            refine vZeq 97 93 rfl i170_90 rfl rfl ?_ ?_
            · refine vK 98 i170_97 rfl ?_
              exact fun hD => tLc [(0, .ref 77)] (xNdk [0] rfl (by decide)) (xNdk [0, 1] rfl (by decide)) ⟨rfl, trivial⟩ (c_x8_op_98 N  hd  s14 0 hD)
            · exact fun hD => tLc [(0, .ref 77)] (xNdk [0] rfl (by decide)) (xNdk [0, 1] rfl (by decide)) ⟨rfl, trivial⟩ (c_x8_op_93 N  hd  s14  hD)
  · refine vLan 5 i170_4 rfl rfl ?_
    refine vKb 7 i170_5 (by decide) rfl ?_
    refine vCallI 10 [.ref 77, vi 60] [] [(0, .ref 77), (1, vi 60)] i170_7 rfl (xlk0 l170_235) (Or.inl rfl) m150 rfl rfl (Nat.le_of_ble_eq_true rfl) (Nat.le_of_ble_eq_true rfl) (Nat.le_of_ble_eq_true rfl) (xh0 sh_77 (by decide)) rfl rfl (fun R1 => c_x8_isSign N   (by omega) s 60) (fun s16 v17 => ?_)
    refine vZne 40 13 rfl i170_10 rfl rfl ?_ ?_
    · exact fun hD => tLc [(0, .ref 77)] (xNdk [0] rfl (by decide)) (xNdk [0, 1] rfl (by decide)) ⟨rfl, trivial⟩ (c_x8_op_40 N  hd  s16  hD)
    · refine vLan 14 i170_13 rfl rfl ?_
      refine vKb 16 i170_14 (by decide) rfl ?_
      refine vCallI 19 [.ref 77, vi 62] [] [(0, .ref 77), (1, vi 62)] i170_16 rfl (xlk0 l170_235) (Or.inl rfl) m150 rfl rfl (Nat.le_of_ble_eq_true rfl) (Nat.le_of_ble_eq_true rfl) (Nat.le_of_ble_eq_true rfl) (xh0 sh_77 (by decide)) rfl rfl (fun R1 => c_x8_isSign N   (by omega) s16 62) (fun s18 v19 => ?_)
      refine vZne 40 22 rfl i170_19 rfl rfl ?_ ?_
      · exact fun hD => tLc [(0, .ref 77)] (xNdk [0] rfl (by decide)) (xNdk [0, 1] rfl (by decide)) ⟨rfl, trivial⟩ (c_x8_op_40 N  hd  s18  hD)
      · refine vLan 23 i170_22 rfl rfl ?_
        refine vKb 25 i170_23 (by decide) rfl ?_
        refine vCallI 28 [.ref 77, vi 61] [] [(0, .ref 77), (1, vi 61)] i170_25 rfl (xlk0 l170_235) (Or.inl rfl) m150 rfl rfl (Nat.le_of_ble_eq_true rfl) (Nat.le_of_ble_eq_true rfl) (Nat.le_of_ble_eq_true rfl) (xh0 sh_77 (by decide)) rfl rfl (fun R1 => c_x8_isSign N   (by omega) s18 61) (fun s20 v21 => ?_)
        refine vZne 40 31 rfl i170_28 rfl rfl ?_ ?_
        · exact fun hD => tLc [(0, .ref 77)] (xNdk [0] rfl (by decide)) (xNdk [0, 1] rfl (by decide)) ⟨rfl, trivial⟩ (c_x8_op_40 N  hd  s20  hD)
        · refine vLan 32 i170_31 rfl rfl ?_
          refine vKb 34 i170_32 (by decide) rfl ?_
          refine vCallI 37 [.ref 77, vi 37] [] [(0, .ref 77), (1, vi 37)] i170_34 rfl (xlk0 l170_235) (Or.inl rfl) m150 rfl rfl (Nat.le_of_ble_eq_true rfl) (Nat.le_of_ble_eq_true rfl) (Nat.le_of_ble_eq_true rfl) (xh0 sh_77 (by decide)) rfl rfl (fun R1 => c_x8_isSign N   (by omega) s20 37) (fun s22 v23 => ?_)
          refine vZeq 44 40 rfl i170_37 rfl rfl ?_ ?_
          · refine vK 45 i170_44 rfl ?_
            refine vGo 98 i170_45 rfl ?_
            exact fun hD => tLc [(0, .ref 77)] (xNdk [0] rfl (by decide)) (xNdk [0, 1] rfl (by decide)) ⟨rfl, trivial⟩ (c_x8_op_98 N  hd  s22 0 hD)
          · exact fun hD => tLc [(0, .ref 77)] (xNdk [0] rfl (by decide)) (xNdk [0, 1] rfl (by decide)) ⟨rfl, trivial⟩ (c_x8_op_40 N  hd  s22  hD)
theorem f182_218 : xFld xg 182 218 = some (7, 24) := by decide +kernel
theorem f182_196 : xFld xg 182 196 = some (7, 21) := by decide +kernel
theorem f182_248 : xFld xg 182 248 = some (7, 26) := by decide +kernel
theorem f182_70 : xFld xg 182 70 = some (7, 27) := by decide +kernel
theorem f182_73 : xFld xg 182 73 = some (7, 28) := by decide +kernel
theorem f182_85 : xFld xg 182 85 = some (7, 32) := by decide +kernel
theorem f182_79 : xFld xg 182 79 = some (7, 30) := by decide +kernel
theorem f182_76 : xFld xg 182 76 = some (7, 29) := by decide +kernel
theorem f182_82 : xFld xg 182 82 = some (7, 31) := by decide +kernel
theorem f182_193 : xFld xg 182 193 = some (7, 22) := by decide +kernel
theorem i182_331 : xIns xg 182 331 = some (.aload_n 0) := by decide +kernel
theorem i182_332 : xIns xg 182 332 = some (.getfield 76) := by decide +kernel
theorem i182_335 : xIns xg 182 335 = some (.iload_n 1) := by decide +kernel
theorem i182_336 : xIns xg 182 336 = some (.aload_n 0) := by decide +kernel
theorem i182_337 : xIns xg 182 337 = some (.getfield 248) := by decide +kernel
theorem i182_340 : xIns xg 182 340 = some (.iload_n 1) := by decide +kernel
theorem i182_341 : xIns xg 182 341 = some (.isub) := by decide +kernel
theorem i182_342 : xIns xg 182 342 = some (.iastore) := by decide +kernel
theorem i182_343 : xIns xg 182 343 = some (.return_) := by decide +kernel
theorem m182 : (xMet xg 182).2.2 = (3, none) := by decide +kernel
theorem i182_327 : xIns xg 182 327 = some (.aload_n 0) := by decide +kernel
theorem i182_328 : xIns xg 182 328 = some (.invokevirtual 263) := by decide +kernel
theorem i182_308 : xIns xg 182 308 = some (.aload_n 0) := by decide +kernel
theorem i182_309 : xIns xg 182 309 = some (.getfield 218) := by decide +kernel
theorem i182_312 : xIns xg 182 312 = some (.ifCond .ne 19) := by decide +kernel
theorem i182_315 : xIns xg 182 315 = some (.iload_n 2) := by decide +kernel
theorem i182_316 : xIns xg 182 316 = some (.bipush 6) := by decide +kernel
theorem i182_318 : xIns xg 182 318 = some (.if_icmp .eq 9) := by decide +kernel
theorem i182_321 : xIns xg 182 321 = some (.iload_n 2) := by decide +kernel
theorem i182_322 : xIns xg 182 322 = some (.bipush 7) := by decide +kernel
theorem i182_324 : xIns xg 182 324 = some (.if_icmp .ne 7) := by decide +kernel
theorem i182_292 : xIns xg 182 292 = some (.aload_n 0) := by decide +kernel
theorem i182_293 : xIns xg 182 293 = some (.getfield 218) := by decide +kernel
theorem i182_296 : xIns xg 182 296 = some (.ifCond .ne 12) := by decide +kernel
theorem i182_299 : xIns xg 182 299 = some (.iload_n 2) := by decide +kernel
theorem i182_300 : xIns xg 182 300 = some (.iconst 2) := by decide +kernel
theorem i182_301 : xIns xg 182 301 = some (.if_icmp .le 7) := by decide +kernel
theorem i182_304 : xIns xg 182 304 = some (.aload_n 0) := by decide +kernel
theorem i182_305 : xIns xg 182 305 = some (.invokevirtual 263) := by decide +kernel
theorem i182_275 : xIns xg 182 275 = some (.aload_n 0) := by decide +kernel
theorem i182_276 : xIns xg 182 276 = some (.getfield 218) := by decide +kernel
theorem i182_279 : xIns xg 182 279 = some (.ifCond .ne 13) := by decide +kernel
theorem i182_282 : xIns xg 182 282 = some (.iload_n 2) := by decide +kernel
theorem i182_283 : xIns xg 182 283 = some (.iconst 2) := by decide +kernel
theorem i182_284 : xIns xg 182 284 = some (.if_icmp .ne 8) := by decide +kernel
theorem i182_287 : xIns xg 182 287 = some (.aload_n 0) := by decide +kernel
theorem i182_288 : xIns xg 182 288 = some (.iload_n 1) := by decide +kernel
theorem i182_289 : xIns xg 182 289 = some (.invokevirtual 259) := by decide +kernel
theorem i182_253 : xIns xg 182 253 = some (.aload_n 0) := by decide +kernel
theorem i182_254 : xIns xg 182 254 = some (.getfield 218) := by decide +kernel
theorem i182_257 : xIns xg 182 257 = some (.ifCond .ne 18) := by decide +kernel
theorem i182_260 : xIns xg 182 260 = some (.iload_n 2) := by decide +kernel
theorem i182_261 : xIns xg 182 261 = some (.iconst 1) := by decide +kernel
theorem i182_262 : xIns xg 182 262 = some (.if_icmp .ne 13) := by decide +kernel
theorem i182_265 : xIns xg 182 265 = some (.aload_n 0) := by decide +kernel
theorem i182_266 : xIns xg 182 266 = some (.getfield 82) := by decide +kernel
theorem i182_269 : xIns xg 182 269 = some (.iload_n 1) := by decide +kernel
theorem i182_270 : xIns xg 182 270 = some (.aload_n 0) := by decide +kernel
theorem i182_271 : xIns xg 182 271 = some (.invokevirtual 255) := by decide +kernel
theorem i182_274 : xIns xg 182 274 = some (.lastore) := by decide +kernel
theorem i182_249 : xIns xg 182 249 = some (.invokevirtual 241) := by decide +kernel
theorem i182_252 : xIns xg 182 252 = some (.lastore) := by decide +kernel
theorem i182_235 : xIns xg 182 235 = some (.iload_n 2) := by decide +kernel
theorem i182_236 : xIns xg 182 236 = some (.bipush 13) := by decide +kernel
theorem i182_238 : xIns xg 182 238 = some (.if_icmp .ne 8) := by decide +kernel
theorem i182_246 : xIns xg 182 246 = some (.sipush 9999) := by decide +kernel
theorem i182_241 : xIns xg 182 241 = some (.bipush 9) := by decide +kernel
theorem i182_243 : xIns xg 182 243 = some (.goto 6) := by decide +kernel
theorem i182_218 : xIns xg 182 218 = some (.aload_n 0) := by decide +kernel
theorem i182_219 : xIns xg 182 219 = some (.getfield 79) := by decide +kernel
theorem i182_222 : xIns xg 182 222 = some (.iload_n 1) := by decide +kernel
theorem i182_223 : xIns xg 182 223 = some (.aload_n 0) := by decide +kernel
theorem i182_224 : xIns xg 182 224 = some (.iload_n 2) := by decide +kernel
theorem i182_225 : xIns xg 182 225 = some (.bipush 13) := by decide +kernel
theorem i182_227 : xIns xg 182 227 = some (.if_icmp .ne 7) := by decide +kernel
theorem i182_234 : xIns xg 182 234 = some (.iconst 0) := by decide +kernel
theorem i182_230 : xIns xg 182 230 = some (.iconst 1) := by decide +kernel
theorem i182_231 : xIns xg 182 231 = some (.goto 4) := by decide +kernel
theorem i182_193 : xIns xg 182 193 = some (.aload_n 0) := by decide +kernel
theorem i182_194 : xIns xg 182 194 = some (.getfield 218) := by decide +kernel
theorem i182_197 : xIns xg 182 197 = some (.ifCond .ne 56) := by decide +kernel
theorem i182_200 : xIns xg 182 200 = some (.iload_n 2) := by decide +kernel
theorem i182_201 : xIns xg 182 201 = some (.bipush 8) := by decide +kernel
theorem i182_203 : xIns xg 182 203 = some (.if_icmp .eq 15) := by decide +kernel
theorem i182_206 : xIns xg 182 206 = some (.iload_n 2) := by decide +kernel
theorem i182_207 : xIns xg 182 207 = some (.bipush 9) := by decide +kernel
theorem i182_209 : xIns xg 182 209 = some (.if_icmp .eq 9) := by decide +kernel
theorem i182_212 : xIns xg 182 212 = some (.iload_n 2) := by decide +kernel
theorem i182_213 : xIns xg 182 213 = some (.bipush 13) := by decide +kernel
theorem i182_215 : xIns xg 182 215 = some (.if_icmp .ne 38) := by decide +kernel
theorem i182_183 : xIns xg 182 183 = some (.aload_n 0) := by decide +kernel
theorem i182_184 : xIns xg 182 184 = some (.getfield 79) := by decide +kernel
theorem i182_187 : xIns xg 182 187 = some (.iload_n 1) := by decide +kernel
theorem i182_188 : xIns xg 182 188 = some (.aload_n 0) := by decide +kernel
theorem i182_189 : xIns xg 182 189 = some (.invokevirtual 255) := by decide +kernel
theorem i182_192 : xIns xg 182 192 = some (.lastore) := by decide +kernel
theorem i182_149 : xIns xg 182 149 = some (.iastore) := by decide +kernel
theorem i182_150 : xIns xg 182 150 = some (.aload_n 0) := by decide +kernel
theorem i182_151 : xIns xg 182 151 = some (.getfield 218) := by decide +kernel
theorem i182_154 : xIns xg 182 154 = some (.ifCond .ne 39) := by decide +kernel
theorem i182_157 : xIns xg 182 157 = some (.iload_n 2) := by decide +kernel
theorem i182_158 : xIns xg 182 158 = some (.iconst 1) := by decide +kernel
theorem i182_159 : xIns xg 182 159 = some (.if_icmp .eq 24) := by decide +kernel
theorem i182_162 : xIns xg 182 162 = some (.iload_n 2) := by decide +kernel
theorem i182_163 : xIns xg 182 163 = some (.iconst 3) := by decide +kernel
theorem i182_164 : xIns xg 182 164 = some (.if_icmp .eq 19) := by decide +kernel
theorem i182_167 : xIns xg 182 167 = some (.iload_n 2) := by decide +kernel
theorem i182_168 : xIns xg 182 168 = some (.iconst 4) := by decide +kernel
theorem i182_169 : xIns xg 182 169 = some (.if_icmp .eq 14) := by decide +kernel
theorem i182_172 : xIns xg 182 172 = some (.iload_n 2) := by decide +kernel
theorem i182_173 : xIns xg 182 173 = some (.iconst 5) := by decide +kernel
theorem i182_174 : xIns xg 182 174 = some (.if_icmp .eq 9) := by decide +kernel
theorem i182_177 : xIns xg 182 177 = some (.iload_n 2) := by decide +kernel
theorem i182_178 : xIns xg 182 178 = some (.bipush 12) := by decide +kernel
theorem i182_180 : xIns xg 182 180 = some (.if_icmp .ne 13) := by decide +kernel
theorem i182_140 : xIns xg 182 140 = some (.aload_n 0) := by decide +kernel
theorem i182_141 : xIns xg 182 141 = some (.iconst 1) := by decide +kernel
theorem i182_142 : xIns xg 182 142 = some (.invokevirtual 251) := by decide +kernel
theorem i182_145 : xIns xg 182 145 = some (.goto 4) := by decide +kernel
theorem i182_122 : xIns xg 182 122 = some (.aload_n 0) := by decide +kernel
theorem i182_123 : xIns xg 182 123 = some (.iconst 0) := by decide +kernel
theorem i182_124 : xIns xg 182 124 = some (.invokevirtual 251) := by decide +kernel
theorem i182_127 : xIns xg 182 127 = some (.goto 22) := by decide +kernel
theorem i182_95 : xIns xg 182 95 = some (.lastore) := by decide +kernel
theorem i182_96 : xIns xg 182 96 = some (.aload_n 0) := by decide +kernel
theorem i182_97 : xIns xg 182 97 = some (.invokevirtual 238) := by decide +kernel
theorem i182_100 : xIns xg 182 100 = some (.aload_n 0) := by decide +kernel
theorem i182_101 : xIns xg 182 101 = some (.getfield 73) := by decide +kernel
theorem i182_104 : xIns xg 182 104 = some (.iload_n 1) := by decide +kernel
theorem i182_105 : xIns xg 182 105 = some (.iload_n 2) := by decide +kernel
theorem i182_106 : xIns xg 182 106 = some (.iconst 3) := by decide +kernel
theorem i182_107 : xIns xg 182 107 = some (.if_icmp .eq 15) := by decide +kernel
theorem i182_110 : xIns xg 182 110 = some (.iload_n 2) := by decide +kernel
theorem i182_111 : xIns xg 182 111 = some (.bipush 6) := by decide +kernel
theorem i182_113 : xIns xg 182 113 = some (.if_icmp .eq 9) := by decide +kernel
theorem i182_116 : xIns xg 182 116 = some (.iload_n 2) := by decide +kernel
theorem i182_117 : xIns xg 182 117 = some (.bipush 10) := by decide +kernel
theorem i182_119 : xIns xg 182 119 = some (.if_icmp .ne 11) := by decide +kernel
theorem i182_130 : xIns xg 182 130 = some (.iload_n 2) := by decide +kernel
theorem i182_131 : xIns xg 182 131 = some (.iconst 4) := by decide +kernel
theorem i182_132 : xIns xg 182 132 = some (.if_icmp .eq 8) := by decide +kernel
theorem i182_135 : xIns xg 182 135 = some (.iload_n 2) := by decide +kernel
theorem i182_136 : xIns xg 182 136 = some (.iconst 5) := by decide +kernel
theorem i182_137 : xIns xg 182 137 = some (.if_icmp .ne 11) := by decide +kernel
theorem i182_148 : xIns xg 182 148 = some (.iconst 0) := by decide +kernel
theorem i182_24 : xIns xg 182 24 = some (.aload_n 0) := by decide +kernel
theorem i182_25 : xIns xg 182 25 = some (.invokevirtual 245) := by decide +kernel
theorem i182_28 : xIns xg 182 28 = some (.return_) := by decide +kernel
theorem i182_0 : xIns xg 182 0 = some (.aload_n 0) := by decide +kernel
theorem i182_1 : xIns xg 182 1 = some (.getfield 218) := by decide +kernel
theorem i182_4 : xIns xg 182 4 = some (.ifCond .ne 20) := by decide +kernel
theorem i182_7 : xIns xg 182 7 = some (.aload_n 0) := by decide +kernel
theorem i182_8 : xIns xg 182 8 = some (.getfield 196) := by decide +kernel
theorem i182_11 : xIns xg 182 11 = some (.iconst 1) := by decide +kernel
theorem i182_12 : xIns xg 182 12 = some (.if_icmp .ne 12) := by decide +kernel
theorem i182_15 : xIns xg 182 15 = some (.aload_n 0) := by decide +kernel
theorem i182_16 : xIns xg 182 16 = some (.getfield 248) := by decide +kernel
theorem i182_19 : xIns xg 182 19 = some (.bipush 24) := by decide +kernel
theorem i182_21 : xIns xg 182 21 = some (.if_icmp .ne 8) := by decide +kernel
theorem i182_29 : xIns xg 182 29 = some (.aload_n 0) := by decide +kernel
theorem i182_30 : xIns xg 182 30 = some (.getfield 248) := by decide +kernel
theorem i182_33 : xIns xg 182 33 = some (.istore_n 1) := by decide +kernel
theorem i182_34 : xIns xg 182 34 = some (.aload_n 0) := by decide +kernel
theorem i182_35 : xIns xg 182 35 = some (.invokevirtual 203) := by decide +kernel
theorem i182_38 : xIns xg 182 38 = some (.istore_n 2) := by decide +kernel
theorem i182_39 : xIns xg 182 39 = some (.aload_n 0) := by decide +kernel
theorem i182_40 : xIns xg 182 40 = some (.dup) := by decide +kernel
theorem i182_41 : xIns xg 182 41 = some (.getfield 248) := by decide +kernel
theorem i182_44 : xIns xg 182 44 = some (.iconst 1) := by decide +kernel
theorem i182_45 : xIns xg 182 45 = some (.iadd) := by decide +kernel
theorem i182_46 : xIns xg 182 46 = some (.putfield 248) := by decide +kernel
theorem p182_248 : xPut xg 182 248 = some (7, 26, .int) := by decide +kernel
theorem i182_49 : xIns xg 182 49 = some (.aload_n 0) := by decide +kernel
theorem i182_50 : xIns xg 182 50 = some (.getfield 70) := by decide +kernel
theorem i182_53 : xIns xg 182 53 = some (.iload_n 1) := by decide +kernel
theorem i182_54 : xIns xg 182 54 = some (.iload_n 2) := by decide +kernel
theorem i182_55 : xIns xg 182 55 = some (.iastore) := by decide +kernel
theorem i182_56 : xIns xg 182 56 = some (.aload_n 0) := by decide +kernel
theorem i182_57 : xIns xg 182 57 = some (.getfield 73) := by decide +kernel
theorem i182_60 : xIns xg 182 60 = some (.iload_n 1) := by decide +kernel
theorem i182_61 : xIns xg 182 61 = some (.iconst 0) := by decide +kernel
theorem i182_62 : xIns xg 182 62 = some (.iastore) := by decide +kernel
theorem i182_63 : xIns xg 182 63 = some (.aload_n 0) := by decide +kernel
theorem i182_64 : xIns xg 182 64 = some (.getfield 85) := by decide +kernel
theorem i182_67 : xIns xg 182 67 = some (.iload_n 1) := by decide +kernel
theorem i182_68 : xIns xg 182 68 = some (.iconst 0) := by decide +kernel
theorem i182_69 : xIns xg 182 69 = some (.iastore) := by decide +kernel
theorem i182_70 : xIns xg 182 70 = some (.aload_n 0) := by decide +kernel
theorem i182_71 : xIns xg 182 71 = some (.getfield 79) := by decide +kernel
theorem i182_74 : xIns xg 182 74 = some (.iload_n 1) := by decide +kernel
theorem i182_75 : xIns xg 182 75 = some (.iload_n 2) := by decide +kernel
theorem i182_76 : xIns xg 182 76 = some (.ifCond .ne 18) := by decide +kernel
theorem i182_94 : xIns xg 182 94 = some (.lconst 0) := by decide +kernel
theorem i182_79 : xIns xg 182 79 = some (.aload_n 0) := by decide +kernel
theorem i182_80 : xIns xg 182 80 = some (.aload_n 0) := by decide +kernel
theorem i182_81 : xIns xg 182 81 = some (.getfield 193) := by decide +kernel
theorem i182_84 : xIns xg 182 84 = some (.invokevirtual 189) := by decide +kernel
theorem i182_87 : xIns xg 182 87 = some (.bipush 97) := by decide +kernel
theorem i182_89 : xIns xg 182 89 = some (.isub) := by decide +kernel
theorem i182_90 : xIns xg 182 90 = some (.i2l) := by decide +kernel
theorem i182_91 : xIns xg 182 91 = some (.goto 4) := by decide +kernel
def d_x8_row_331 (N : Nat) (r_row : St → Option Rs)  (s : St) (x1 : Int) : Option Rs :=
  if 0 ≤ (w32 x1) ∧ (w32 x1) < ((24 : Nat) : Int) then bd (up s 97 (Int.toNat (w32 x1)) ((s 77 26) - x1)) fun s1 => some (s1, 0) else none
set_option maxHeartbeats 4000000 in
set_option maxRecDepth 100000 in
theorem c_x8_row_331 {sc : xS} {d : Nat} {R : Rs} (N : Nat) (r_row : St → Option Rs) (e : Nat) (hr_row : ∀ d, e ≤ d → ∀ (s : St)  (R : Rs), r_row s  = some R → vT sc d 182 0 [(0, .ref 77)] [] s (fun r => r = qV R)) (hd : e + 8 ≤ d)   (s : St) (x1 : Int) : d_x8_row_331 N r_row  s x1 = some R → vT sc d 182 331 [(0, .ref 77), (1, vi x1)] [] s (fun r => r = qV R) := by
  obtain ⟨d, rfl⟩ : ∃ d', d = d' + 1 := ⟨d - 1, by omega⟩
  unfold d_x8_row_331
  refine vLan 332 i182_331 rfl rfl ?_
  refine vGetC 335 i182_332 f182_76 sh_77 rfl rfl ?_
  refine vLin 336 i182_335 rfl rfl ?_
  refine vLan 337 i182_336 rfl rfl ?_
  refine vGet 340 i182_337 f182_248 sh_77 rfl rfl ?_
  refine vLin 341 i182_340 rfl rfl ?_
  refine vIsub 342 i182_341 rfl ?_
  refine vIas 343 rfl i182_342 sh_97 rfl (fun s1 => ?_)
  exact vR0 i182_343 m182
def d_x8_row_327 (N : Nat) (r_row : St → Option Rs)  (s : St) (x1 : Int) : Option Rs :=
  bV (r_row s ) fun s2 => d_x8_row_331 N r_row  s2 x1
set_option maxHeartbeats 4000000 in
set_option maxRecDepth 100000 in
theorem c_x8_row_327 {sc : xS} {d : Nat} {R : Rs} (N : Nat) (r_row : St → Option Rs) (e : Nat) (hr_row : ∀ d, e ≤ d → ∀ (s : St)  (R : Rs), r_row s  = some R → vT sc d 182 0 [(0, .ref 77)] [] s (fun r => r = qV R)) (hd : e + 8 ≤ d)   (s : St) (x1 : Int) : d_x8_row_327 N r_row  s x1 = some R → vT sc d 182 327 [(0, .ref 77), (1, vi x1)] [] s (fun r => r = qV R) := by
  obtain ⟨d, rfl⟩ : ∃ d', d = d' + 1 := ⟨d - 1, by omega⟩
  unfold d_x8_row_327
  refine vLan 328 i182_327 rfl rfl ?_
  refine vCallV 331 [.ref 77] [] [(0, .ref 77)] i182_328 rfl (xlk0 l182_263) (Or.inl rfl) m182 rfl rfl (Nat.le_of_ble_eq_true rfl) (Nat.le_of_ble_eq_true rfl) (Nat.le_of_ble_eq_true rfl) (xh0 sh_77 (by decide)) rfl rfl (hr_row d (by omega) s ) (fun s2 => ?_)
  exact fun hD => c_x8_row_331 N r_row e hr_row hd  s2 x1 hD
def d_x8_row_308 (N : Nat) (r_row : St → Option Rs)  (s : St) (x1 : Int) (x2 : Int) : Option Rs :=
  (if (w32 (s 77 24)) = 0 then (if (w32 x2) = 6 then d_x8_row_327 N r_row  s x1 else (if (w32 x2) = 7 then d_x8_row_327 N r_row  s x1 else d_x8_row_331 N r_row  s x1)) else d_x8_row_331 N r_row  s x1)
set_option maxHeartbeats 4000000 in
set_option maxRecDepth 100000 in
theorem c_x8_row_308 {sc : xS} {d : Nat} {R : Rs} (N : Nat) (r_row : St → Option Rs) (e : Nat) (hr_row : ∀ d, e ≤ d → ∀ (s : St)  (R : Rs), r_row s  = some R → vT sc d 182 0 [(0, .ref 77)] [] s (fun r => r = qV R)) (hd : e + 8 ≤ d)   (s : St) (x1 : Int) (x2 : Int) : d_x8_row_308 N r_row  s x1 x2 = some R → vT sc d 182 308 [(0, .ref 77), (1, vi x1), (2, vi x2)] [] s (fun r => r = qV R) := by
  obtain ⟨d, rfl⟩ : ∃ d', d = d' + 1 := ⟨d - 1, by omega⟩
  unfold d_x8_row_308
  refine vLan 309 i182_308 rfl rfl ?_
  refine vGet 312 i182_309 f182_218 sh_77 rfl rfl ?_
  refine vZne 331 315 rfl i182_312 rfl rfl ?_ ?_
  · exact fun hD => tLc [(0, .ref 77), (1, vi x1)] (xNdk [0, 1] rfl (by decide)) (xNdk [0, 1, 2] rfl (by decide)) ⟨rfl, rfl, trivial⟩ (c_x8_row_331 N r_row e hr_row hd  s x1 hD)
  · refine vLin 316 i182_315 rfl rfl ?_
    refine vKb 318 i182_316 (by decide) rfl ?_
    refine vCeq 327 321 rfl (show w32 6 = 6 from rfl) i182_318 rfl rfl ?_ ?_
    · exact fun hD => tLc [(0, .ref 77), (1, vi x1)] (xNdk [0, 1] rfl (by decide)) (xNdk [0, 1, 2] rfl (by decide)) ⟨rfl, rfl, trivial⟩ (c_x8_row_327 N r_row e hr_row hd  s x1 hD)
    · refine vLin 322 i182_321 rfl rfl ?_
      refine vKb 324 i182_322 (by decide) rfl ?_
      refine vCne 331 327 rfl (show w32 7 = 7 from rfl) i182_324 rfl rfl ?_ ?_
      · exact fun hD => tLc [(0, .ref 77), (1, vi x1)] (xNdk [0, 1] rfl (by decide)) (xNdk [0, 1, 2] rfl (by decide)) ⟨rfl, rfl, trivial⟩ (c_x8_row_331 N r_row e hr_row hd  s x1 hD)
      · exact fun hD => tLc [(0, .ref 77), (1, vi x1)] (xNdk [0, 1] rfl (by decide)) (xNdk [0, 1, 2] rfl (by decide)) ⟨rfl, rfl, trivial⟩ (c_x8_row_327 N r_row e hr_row hd  s x1 hD)
def d_x8_row_292 (N : Nat) (r_row : St → Option Rs)  (s : St) (x1 : Int) (x2 : Int) : Option Rs :=
  (if (w32 (s 77 24)) = 0 then (if 2 < (w32 x2) then bV (r_row s ) fun s4 => d_x8_row_308 N r_row  s4 x1 x2 else d_x8_row_308 N r_row  s x1 x2) else d_x8_row_308 N r_row  s x1 x2)
set_option maxHeartbeats 4000000 in
set_option maxRecDepth 100000 in
theorem c_x8_row_292 {sc : xS} {d : Nat} {R : Rs} (N : Nat) (r_row : St → Option Rs) (e : Nat) (hr_row : ∀ d, e ≤ d → ∀ (s : St)  (R : Rs), r_row s  = some R → vT sc d 182 0 [(0, .ref 77)] [] s (fun r => r = qV R)) (hd : e + 8 ≤ d)   (s : St) (x1 : Int) (x2 : Int) : d_x8_row_292 N r_row  s x1 x2 = some R → vT sc d 182 292 [(0, .ref 77), (1, vi x1), (2, vi x2)] [] s (fun r => r = qV R) := by
  obtain ⟨d, rfl⟩ : ∃ d', d = d' + 1 := ⟨d - 1, by omega⟩
  unfold d_x8_row_292
  refine vLan 293 i182_292 rfl rfl ?_
  refine vGet 296 i182_293 f182_218 sh_77 rfl rfl ?_
  refine vZne 308 299 rfl i182_296 rfl rfl ?_ ?_
  · exact fun hD => c_x8_row_308 N r_row e hr_row hd  s x1 x2 hD
  · refine vLin 300 i182_299 rfl rfl ?_
    refine vK 301 i182_300 rfl ?_
    refine vCle 308 304 rfl (show w32 2 = 2 from rfl) i182_301 rfl rfl ?_ ?_
    · exact fun hD => c_x8_row_308 N r_row e hr_row hd  s x1 x2 hD
    · refine vLan 305 i182_304 rfl rfl ?_
      refine vCallV 308 [.ref 77] [] [(0, .ref 77)] i182_305 rfl (xlk0 l182_263) (Or.inl rfl) m182 rfl rfl (Nat.le_of_ble_eq_true rfl) (Nat.le_of_ble_eq_true rfl) (Nat.le_of_ble_eq_true rfl) (xh0 sh_77 (by decide)) rfl rfl (hr_row d (by omega) s ) (fun s4 => ?_)
      exact fun hD => c_x8_row_308 N r_row e hr_row hd  s4 x1 x2 hD
def d_x8_row_275 (N : Nat) (r_row : St → Option Rs)  (s : St) (x1 : Int) (x2 : Int) : Option Rs :=
  (if (w32 (s 77 24)) = 0 then (if (w32 x2) = 2 then bV (d_x8_list N  s x1) fun s6 => d_x8_row_292 N r_row  s6 x1 x2 else d_x8_row_292 N r_row  s x1 x2) else d_x8_row_292 N r_row  s x1 x2)
set_option maxHeartbeats 4000000 in
set_option maxRecDepth 100000 in
theorem c_x8_row_275 {sc : xS} {d : Nat} {R : Rs} (N : Nat) (r_row : St → Option Rs) (e : Nat) (hr_row : ∀ d, e ≤ d → ∀ (s : St)  (R : Rs), r_row s  = some R → vT sc d 182 0 [(0, .ref 77)] [] s (fun r => r = qV R)) (hd : e + 8 ≤ d)   (s : St) (x1 : Int) (x2 : Int) : d_x8_row_275 N r_row  s x1 x2 = some R → vT sc d 182 275 [(0, .ref 77), (1, vi x1), (2, vi x2)] [] s (fun r => r = qV R) := by
  obtain ⟨d, rfl⟩ : ∃ d', d = d' + 1 := ⟨d - 1, by omega⟩
  unfold d_x8_row_275
  refine vLan 276 i182_275 rfl rfl ?_
  refine vGet 279 i182_276 f182_218 sh_77 rfl rfl ?_
  refine vZne 292 282 rfl i182_279 rfl rfl ?_ ?_
  · exact fun hD => c_x8_row_292 N r_row e hr_row hd  s x1 x2 hD
  · refine vLin 283 i182_282 rfl rfl ?_
    refine vK 284 i182_283 rfl ?_
    refine vCne 292 287 rfl (show w32 2 = 2 from rfl) i182_284 rfl rfl ?_ ?_
    · exact fun hD => c_x8_row_292 N r_row e hr_row hd  s x1 x2 hD
    · refine vLan 288 i182_287 rfl rfl ?_
      refine vLin 289 i182_288 rfl rfl ?_
      refine vCallV 292 [.ref 77, vi x1] [] [(0, .ref 77), (1, vi x1)] i182_289 rfl (xlk0 l182_259) (Or.inl rfl) m164 rfl rfl (Nat.le_of_ble_eq_true rfl) (Nat.le_of_ble_eq_true rfl) (Nat.le_of_ble_eq_true rfl) (xh0 sh_77 (by decide)) rfl rfl (fun R1 => c_x8_list N   (by omega) s x1) (fun s6 => ?_)
      exact fun hD => c_x8_row_292 N r_row e hr_row hd  s6 x1 x2 hD
def d_x8_row_253 (N : Nat) (r_row : St → Option Rs)  (s : St) (x1 : Int) (x2 : Int) : Option Rs :=
  (if (w32 (s 77 24)) = 0 then (if (w32 x2) = 1 then bI (d_x8_num N  s ) fun s8 v9 => if 0 ≤ (w32 x1) ∧ (w32 x1) < ((24 : Nat) : Int) then bd (up s8 99 (Int.toNat (w32 x1)) v9) fun s10 => d_x8_row_275 N r_row  s10 x1 x2 else none else d_x8_row_275 N r_row  s x1 x2) else d_x8_row_275 N r_row  s x1 x2)
set_option maxHeartbeats 4000000 in
set_option maxRecDepth 100000 in
theorem c_x8_row_253 {sc : xS} {d : Nat} {R : Rs} (N : Nat) (r_row : St → Option Rs) (e : Nat) (hr_row : ∀ d, e ≤ d → ∀ (s : St)  (R : Rs), r_row s  = some R → vT sc d 182 0 [(0, .ref 77)] [] s (fun r => r = qV R)) (hd : e + 8 ≤ d)   (s : St) (x1 : Int) (x2 : Int) : d_x8_row_253 N r_row  s x1 x2 = some R → vT sc d 182 253 [(0, .ref 77), (1, vi x1), (2, vi x2)] [] s (fun r => r = qV R) := by
  obtain ⟨d, rfl⟩ : ∃ d', d = d' + 1 := ⟨d - 1, by omega⟩
  unfold d_x8_row_253
  refine vLan 254 i182_253 rfl rfl ?_
  refine vGet 257 i182_254 f182_218 sh_77 rfl rfl ?_
  refine vZne 275 260 rfl i182_257 rfl rfl ?_ ?_
  · exact fun hD => c_x8_row_275 N r_row e hr_row hd  s x1 x2 hD
  · refine vLin 261 i182_260 rfl rfl ?_
    refine vK 262 i182_261 rfl ?_
    refine vCne 275 265 rfl (show w32 1 = 1 from rfl) i182_262 rfl rfl ?_ ?_
    · exact fun hD => c_x8_row_275 N r_row e hr_row hd  s x1 x2 hD
    · refine vLan 266 i182_265 rfl rfl ?_
      refine vGetC 269 i182_266 f182_82 sh_77 rfl rfl ?_
      refine vLin 270 i182_269 rfl rfl ?_
      refine vLan 271 i182_270 rfl rfl ?_
      refine vCallL 274 [.ref 77] [vi x1, .ref 99] [(0, .ref 77)] i182_271 rfl (xlk0 l182_255) (Or.inl rfl) m168 rfl rfl (Nat.le_of_ble_eq_true rfl) (Nat.le_of_ble_eq_true rfl) (Nat.le_of_ble_eq_true rfl) (xh0 sh_77 (by decide)) rfl rfl (fun R1 => c_x8_num N   (by omega) s ) (fun s8 v9 => ?_)
      refine vLas 275 rfl i182_274 sh_99 rfl (fun s10 => ?_)
      exact fun hD => c_x8_row_275 N r_row e hr_row hd  s10 x1 x2 hD
def d_x8_row_249 (N : Nat) (r_row : St → Option Rs)  (s : St) (x1 : Int) (x2 : Int) (z0 : Int) (z1 : Int) (z3 : Int) : Option Rs :=
  bI (d_x8_plain N  s z1 z0) fun s11 v12 => if 0 ≤ (w32 z3) ∧ (w32 z3) < ((24 : Nat) : Int) then bd (up s11 98 (Int.toNat (w32 z3)) v12) fun s13 => d_x8_row_253 N r_row  s13 x1 x2 else none
set_option maxHeartbeats 4000000 in
set_option maxRecDepth 100000 in
theorem c_x8_row_249 {sc : xS} {d : Nat} {R : Rs} (N : Nat) (r_row : St → Option Rs) (e : Nat) (hr_row : ∀ d, e ≤ d → ∀ (s : St)  (R : Rs), r_row s  = some R → vT sc d 182 0 [(0, .ref 77)] [] s (fun r => r = qV R)) (hd : e + 8 ≤ d)   (s : St) (x1 : Int) (x2 : Int) (z0 : Int) (z1 : Int) (z3 : Int) : d_x8_row_249 N r_row  s x1 x2 z0 z1 z3 = some R → vT sc d 182 249 [(0, .ref 77), (1, vi x1), (2, vi x2)] [vi z0, vi z1, .ref 77, vi z3, .ref 98] s (fun r => r = qV R) := by
  obtain ⟨d, rfl⟩ : ∃ d', d = d' + 1 := ⟨d - 1, by omega⟩
  unfold d_x8_row_249
  refine vCallL 252 [.ref 77, vi z1, vi z0] [vi z3, .ref 98] [(0, .ref 77), (1, vi z1), (2, vi z0)] i182_249 rfl (xlk0 l182_241) (Or.inl rfl) m176 rfl rfl (Nat.le_of_ble_eq_true rfl) (Nat.le_of_ble_eq_true rfl) (Nat.le_of_ble_eq_true rfl) (xh0 sh_77 (by decide)) rfl rfl (fun R1 => c_x8_plain N   (by omega) s z1 z0) (fun s11 v12 => ?_)
  refine vLas 253 rfl i182_252 sh_98 rfl (fun s13 => ?_)
  exact fun hD => c_x8_row_253 N r_row e hr_row hd  s13 x1 x2 hD
def d_x8_row_235 (N : Nat) (r_row : St → Option Rs)  (s : St) (x1 : Int) (x2 : Int) (z0 : Int) (z2 : Int) : Option Rs :=
  (if (w32 x2) = 13 then d_x8_row_249 N r_row  s x1 x2 9 z0 z2 else d_x8_row_249 N r_row  s x1 x2 9999 z0 z2)
set_option maxHeartbeats 4000000 in
set_option maxRecDepth 100000 in
theorem c_x8_row_235 {sc : xS} {d : Nat} {R : Rs} (N : Nat) (r_row : St → Option Rs) (e : Nat) (hr_row : ∀ d, e ≤ d → ∀ (s : St)  (R : Rs), r_row s  = some R → vT sc d 182 0 [(0, .ref 77)] [] s (fun r => r = qV R)) (hd : e + 8 ≤ d)   (s : St) (x1 : Int) (x2 : Int) (z0 : Int) (z2 : Int) : d_x8_row_235 N r_row  s x1 x2 z0 z2 = some R → vT sc d 182 235 [(0, .ref 77), (1, vi x1), (2, vi x2)] [vi z0, .ref 77, vi z2, .ref 98] s (fun r => r = qV R) := by
  obtain ⟨d, rfl⟩ : ∃ d', d = d' + 1 := ⟨d - 1, by omega⟩
  unfold d_x8_row_235
  refine vLin 236 i182_235 rfl rfl ?_
  refine vKb 238 i182_236 (by decide) rfl ?_
  refine vCne 246 241 rfl (show w32 13 = 13 from rfl) i182_238 rfl rfl ?_ ?_
  · refine vKs 249 i182_246 (by decide) rfl ?_
    exact fun hD => c_x8_row_249 N r_row e hr_row hd  s x1 x2 9999 z0 z2 hD
  · refine vKb 243 i182_241 (by decide) rfl ?_
    refine vGo 249 i182_243 rfl ?_
    exact fun hD => c_x8_row_249 N r_row e hr_row hd  s x1 x2 9 z0 z2 hD
def d_x8_row_218 (N : Nat) (r_row : St → Option Rs)  (s : St) (x1 : Int) (x2 : Int) : Option Rs :=
  (if (w32 x2) = 13 then d_x8_row_235 N r_row  s x1 x2 1 x1 else d_x8_row_235 N r_row  s x1 x2 0 x1)
set_option maxHeartbeats 4000000 in
set_option maxRecDepth 100000 in
theorem c_x8_row_218 {sc : xS} {d : Nat} {R : Rs} (N : Nat) (r_row : St → Option Rs) (e : Nat) (hr_row : ∀ d, e ≤ d → ∀ (s : St)  (R : Rs), r_row s  = some R → vT sc d 182 0 [(0, .ref 77)] [] s (fun r => r = qV R)) (hd : e + 8 ≤ d)   (s : St) (x1 : Int) (x2 : Int) : d_x8_row_218 N r_row  s x1 x2 = some R → vT sc d 182 218 [(0, .ref 77), (1, vi x1), (2, vi x2)] [] s (fun r => r = qV R) := by
  obtain ⟨d, rfl⟩ : ∃ d', d = d' + 1 := ⟨d - 1, by omega⟩
  unfold d_x8_row_218
  refine vLan 219 i182_218 rfl rfl ?_
  refine vGetC 222 i182_219 f182_79 sh_77 rfl rfl ?_
  refine vLin 223 i182_222 rfl rfl ?_
  refine vLan 224 i182_223 rfl rfl ?_
  refine vLin 225 i182_224 rfl rfl ?_
  refine vKb 227 i182_225 (by decide) rfl ?_
  refine vCne 234 230 rfl (show w32 13 = 13 from rfl) i182_227 rfl rfl ?_ ?_
  · refine vK 235 i182_234 rfl ?_
    exact fun hD => c_x8_row_235 N r_row e hr_row hd  s x1 x2 0 x1 hD
  · refine vK 231 i182_230 rfl ?_
    refine vGo 235 i182_231 rfl ?_
    exact fun hD => c_x8_row_235 N r_row e hr_row hd  s x1 x2 1 x1 hD
def d_x8_row_193 (N : Nat) (r_row : St → Option Rs)  (s : St) (x1 : Int) (x2 : Int) : Option Rs :=
  (if (w32 (s 77 24)) = 0 then (if (w32 x2) = 8 then d_x8_row_218 N r_row  s x1 x2 else (if (w32 x2) = 9 then d_x8_row_218 N r_row  s x1 x2 else (if (w32 x2) = 13 then d_x8_row_218 N r_row  s x1 x2 else d_x8_row_253 N r_row  s x1 x2))) else d_x8_row_253 N r_row  s x1 x2)
set_option maxHeartbeats 4000000 in
set_option maxRecDepth 100000 in
theorem c_x8_row_193 {sc : xS} {d : Nat} {R : Rs} (N : Nat) (r_row : St → Option Rs) (e : Nat) (hr_row : ∀ d, e ≤ d → ∀ (s : St)  (R : Rs), r_row s  = some R → vT sc d 182 0 [(0, .ref 77)] [] s (fun r => r = qV R)) (hd : e + 8 ≤ d)   (s : St) (x1 : Int) (x2 : Int) : d_x8_row_193 N r_row  s x1 x2 = some R → vT sc d 182 193 [(0, .ref 77), (1, vi x1), (2, vi x2)] [] s (fun r => r = qV R) := by
  obtain ⟨d, rfl⟩ : ∃ d', d = d' + 1 := ⟨d - 1, by omega⟩
  unfold d_x8_row_193
  refine vLan 194 i182_193 rfl rfl ?_
  refine vGet 197 i182_194 f182_218 sh_77 rfl rfl ?_
  refine vZne 253 200 rfl i182_197 rfl rfl ?_ ?_
  · exact fun hD => c_x8_row_253 N r_row e hr_row hd  s x1 x2 hD
  · refine vLin 201 i182_200 rfl rfl ?_
    refine vKb 203 i182_201 (by decide) rfl ?_
    refine vCeq 218 206 rfl (show w32 8 = 8 from rfl) i182_203 rfl rfl ?_ ?_
    · exact fun hD => c_x8_row_218 N r_row e hr_row hd  s x1 x2 hD
    · refine vLin 207 i182_206 rfl rfl ?_
      refine vKb 209 i182_207 (by decide) rfl ?_
      refine vCeq 218 212 rfl (show w32 9 = 9 from rfl) i182_209 rfl rfl ?_ ?_
      · exact fun hD => c_x8_row_218 N r_row e hr_row hd  s x1 x2 hD
      · refine vLin 213 i182_212 rfl rfl ?_
        refine vKb 215 i182_213 (by decide) rfl ?_
        refine vCne 253 218 rfl (show w32 13 = 13 from rfl) i182_215 rfl rfl ?_ ?_
        · exact fun hD => c_x8_row_253 N r_row e hr_row hd  s x1 x2 hD
        · exact fun hD => c_x8_row_218 N r_row e hr_row hd  s x1 x2 hD
def d_x8_row_183 (N : Nat) (r_row : St → Option Rs)  (s : St) (x1 : Int) (x2 : Int) : Option Rs :=
  bI (d_x8_num N  s ) fun s14 v15 => if 0 ≤ (w32 x1) ∧ (w32 x1) < ((24 : Nat) : Int) then bd (up s14 98 (Int.toNat (w32 x1)) v15) fun s16 => d_x8_row_193 N r_row  s16 x1 x2 else none
set_option maxHeartbeats 4000000 in
set_option maxRecDepth 100000 in
theorem c_x8_row_183 {sc : xS} {d : Nat} {R : Rs} (N : Nat) (r_row : St → Option Rs) (e : Nat) (hr_row : ∀ d, e ≤ d → ∀ (s : St)  (R : Rs), r_row s  = some R → vT sc d 182 0 [(0, .ref 77)] [] s (fun r => r = qV R)) (hd : e + 8 ≤ d)   (s : St) (x1 : Int) (x2 : Int) : d_x8_row_183 N r_row  s x1 x2 = some R → vT sc d 182 183 [(0, .ref 77), (1, vi x1), (2, vi x2)] [] s (fun r => r = qV R) := by
  obtain ⟨d, rfl⟩ : ∃ d', d = d' + 1 := ⟨d - 1, by omega⟩
  unfold d_x8_row_183
  refine vLan 184 i182_183 rfl rfl ?_
  refine vGetC 187 i182_184 f182_79 sh_77 rfl rfl ?_
  refine vLin 188 i182_187 rfl rfl ?_
  refine vLan 189 i182_188 rfl rfl ?_
  refine vCallL 192 [.ref 77] [vi x1, .ref 98] [(0, .ref 77)] i182_189 rfl (xlk0 l182_255) (Or.inl rfl) m168 rfl rfl (Nat.le_of_ble_eq_true rfl) (Nat.le_of_ble_eq_true rfl) (Nat.le_of_ble_eq_true rfl) (xh0 sh_77 (by decide)) rfl rfl (fun R1 => c_x8_num N   (by omega) s ) (fun s14 v15 => ?_)
  refine vLas 193 rfl i182_192 sh_98 rfl (fun s16 => ?_)
  exact fun hD => c_x8_row_193 N r_row e hr_row hd  s16 x1 x2 hD
def d_x8_row_149 (N : Nat) (r_row : St → Option Rs)  (s : St) (x1 : Int) (x2 : Int) (z0 : Int) (z1 : Int) : Option Rs :=
  if 0 ≤ (w32 z1) ∧ (w32 z1) < ((24 : Nat) : Int) then bd (up s 96 (Int.toNat (w32 z1)) z0) fun s17 => (if (w32 (s17 77 24)) = 0 then (if (w32 x2) = 1 then d_x8_row_183 N r_row  s17 x1 x2 else (if (w32 x2) = 3 then d_x8_row_183 N r_row  s17 x1 x2 else (if (w32 x2) = 4 then d_x8_row_183 N r_row  s17 x1 x2 else (if (w32 x2) = 5 then d_x8_row_183 N r_row  s17 x1 x2 else (if (w32 x2) = 12 then d_x8_row_183 N r_row  s17 x1 x2 else d_x8_row_193 N r_row  s17 x1 x2))))) else d_x8_row_193 N r_row  s17 x1 x2) else none
set_option maxHeartbeats 4000000 in
set_option maxRecDepth 100000 in
theorem c_x8_row_149 {sc : xS} {d : Nat} {R : Rs} (N : Nat) (r_row : St → Option Rs) (e : Nat) (hr_row : ∀ d, e ≤ d → ∀ (s : St)  (R : Rs), r_row s  = some R → vT sc d 182 0 [(0, .ref 77)] [] s (fun r => r = qV R)) (hd : e + 8 ≤ d)   (s : St) (x1 : Int) (x2 : Int) (z0 : Int) (z1 : Int) : d_x8_row_149 N r_row  s x1 x2 z0 z1 = some R → vT sc d 182 149 [(0, .ref 77), (1, vi x1), (2, vi x2)] [vi z0, vi z1, .ref 96] s (fun r => r = qV R) := by
  obtain ⟨d, rfl⟩ : ∃ d', d = d' + 1 := ⟨d - 1, by omega⟩
  unfold d_x8_row_149
  refine vIas 150 rfl i182_149 sh_96 rfl (fun s17 => ?_)
  refine vLan 151 i182_150 rfl rfl ?_
  refine vGet 154 i182_151 f182_218 sh_77 rfl rfl ?_
  refine vZne 193 157 rfl i182_154 rfl rfl ?_ ?_
  · exact fun hD => c_x8_row_193 N r_row e hr_row hd  s17 x1 x2 hD
  · refine vLin 158 i182_157 rfl rfl ?_
    refine vK 159 i182_158 rfl ?_
    refine vCeq 183 162 rfl (show w32 1 = 1 from rfl) i182_159 rfl rfl ?_ ?_
    · exact fun hD => c_x8_row_183 N r_row e hr_row hd  s17 x1 x2 hD
    · refine vLin 163 i182_162 rfl rfl ?_
      refine vK 164 i182_163 rfl ?_
      refine vCeq 183 167 rfl (show w32 3 = 3 from rfl) i182_164 rfl rfl ?_ ?_
      · exact fun hD => c_x8_row_183 N r_row e hr_row hd  s17 x1 x2 hD
      · refine vLin 168 i182_167 rfl rfl ?_
        refine vK 169 i182_168 rfl ?_
        refine vCeq 183 172 rfl (show w32 4 = 4 from rfl) i182_169 rfl rfl ?_ ?_
        · exact fun hD => c_x8_row_183 N r_row e hr_row hd  s17 x1 x2 hD
        · refine vLin 173 i182_172 rfl rfl ?_
          refine vK 174 i182_173 rfl ?_
          refine vCeq 183 177 rfl (show w32 5 = 5 from rfl) i182_174 rfl rfl ?_ ?_
          · exact fun hD => c_x8_row_183 N r_row e hr_row hd  s17 x1 x2 hD
          · refine vLin 178 i182_177 rfl rfl ?_
            refine vKb 180 i182_178 (by decide) rfl ?_
            refine vCne 193 183 rfl (show w32 12 = 12 from rfl) i182_180 rfl rfl ?_ ?_
            · exact fun hD => c_x8_row_193 N r_row e hr_row hd  s17 x1 x2 hD
            · exact fun hD => c_x8_row_183 N r_row e hr_row hd  s17 x1 x2 hD
def d_x8_row_140 (N : Nat) (r_row : St → Option Rs)  (s : St) (x1 : Int) (x2 : Int) (z0 : Int) : Option Rs :=
  bI (d_x8_op N  s 1) fun s18 v19 => d_x8_row_149 N r_row  s18 x1 x2 v19 z0
set_option maxHeartbeats 4000000 in
set_option maxRecDepth 100000 in
theorem c_x8_row_140 {sc : xS} {d : Nat} {R : Rs} (N : Nat) (r_row : St → Option Rs) (e : Nat) (hr_row : ∀ d, e ≤ d → ∀ (s : St)  (R : Rs), r_row s  = some R → vT sc d 182 0 [(0, .ref 77)] [] s (fun r => r = qV R)) (hd : e + 8 ≤ d)   (s : St) (x1 : Int) (x2 : Int) (z0 : Int) : d_x8_row_140 N r_row  s x1 x2 z0 = some R → vT sc d 182 140 [(0, .ref 77), (1, vi x1), (2, vi x2)] [vi z0, .ref 96] s (fun r => r = qV R) := by
  obtain ⟨d, rfl⟩ : ∃ d', d = d' + 1 := ⟨d - 1, by omega⟩
  unfold d_x8_row_140
  refine vLan 141 i182_140 rfl rfl ?_
  refine vK 142 i182_141 rfl ?_
  refine vCallI 145 [.ref 77, vi 1] [vi z0, .ref 96] [(0, .ref 77), (1, vi 1)] i182_142 rfl (xlk0 l182_251) (Or.inl rfl) m170 rfl rfl (Nat.le_of_ble_eq_true rfl) (Nat.le_of_ble_eq_true rfl) (Nat.le_of_ble_eq_true rfl) (xh0 sh_77 (by decide)) rfl rfl (fun R1 => c_x8_op N   (by omega) s 1) (fun s18 v19 => ?_)
  refine vGo 149 i182_145 rfl ?_
  exact fun hD => c_x8_row_149 N r_row e hr_row hd  s18 x1 x2 v19 z0 hD
def d_x8_row_122 (N : Nat) (r_row : St → Option Rs)  (s : St) (x1 : Int) (x2 : Int) (z0 : Int) : Option Rs :=
  bI (d_x8_op N  s 0) fun s20 v21 => d_x8_row_149 N r_row  s20 x1 x2 v21 z0
set_option maxHeartbeats 4000000 in
set_option maxRecDepth 100000 in
theorem c_x8_row_122 {sc : xS} {d : Nat} {R : Rs} (N : Nat) (r_row : St → Option Rs) (e : Nat) (hr_row : ∀ d, e ≤ d → ∀ (s : St)  (R : Rs), r_row s  = some R → vT sc d 182 0 [(0, .ref 77)] [] s (fun r => r = qV R)) (hd : e + 8 ≤ d)   (s : St) (x1 : Int) (x2 : Int) (z0 : Int) : d_x8_row_122 N r_row  s x1 x2 z0 = some R → vT sc d 182 122 [(0, .ref 77), (1, vi x1), (2, vi x2)] [vi z0, .ref 96] s (fun r => r = qV R) := by
  obtain ⟨d, rfl⟩ : ∃ d', d = d' + 1 := ⟨d - 1, by omega⟩
  unfold d_x8_row_122
  refine vLan 123 i182_122 rfl rfl ?_
  refine vK 124 i182_123 rfl ?_
  refine vCallI 127 [.ref 77, vi 0] [vi z0, .ref 96] [(0, .ref 77), (1, vi 0)] i182_124 rfl (xlk0 l182_251) (Or.inl rfl) m170 rfl rfl (Nat.le_of_ble_eq_true rfl) (Nat.le_of_ble_eq_true rfl) (Nat.le_of_ble_eq_true rfl) (xh0 sh_77 (by decide)) rfl rfl (fun R1 => c_x8_op N   (by omega) s 0) (fun s20 v21 => ?_)
  refine vGo 149 i182_127 rfl ?_
  exact fun hD => c_x8_row_149 N r_row e hr_row hd  s20 x1 x2 v21 z0 hD
def d_x8_row_95 (N : Nat) (r_row : St → Option Rs)  (s : St) (x1 : Int) (x2 : Int) (z0 : Int) (z1 : Int) : Option Rs :=
  if 0 ≤ (w32 z1) ∧ (w32 z1) < ((24 : Nat) : Int) then bd (up s 98 (Int.toNat (w32 z1)) z0) fun s22 => bV (d_x8_next N  s22 ) fun s23 => (if (w32 x2) = 3 then d_x8_row_122 N r_row  s23 x1 x2 x1 else (if (w32 x2) = 6 then d_x8_row_122 N r_row  s23 x1 x2 x1 else (if (w32 x2) = 10 then d_x8_row_122 N r_row  s23 x1 x2 x1 else (if (w32 x2) = 4 then d_x8_row_140 N r_row  s23 x1 x2 x1 else (if (w32 x2) = 5 then d_x8_row_140 N r_row  s23 x1 x2 x1 else d_x8_row_149 N r_row  s23 x1 x2 0 x1))))) else none
set_option maxHeartbeats 4000000 in
set_option maxRecDepth 100000 in
theorem c_x8_row_95 {sc : xS} {d : Nat} {R : Rs} (N : Nat) (r_row : St → Option Rs) (e : Nat) (hr_row : ∀ d, e ≤ d → ∀ (s : St)  (R : Rs), r_row s  = some R → vT sc d 182 0 [(0, .ref 77)] [] s (fun r => r = qV R)) (hd : e + 8 ≤ d)   (s : St) (x1 : Int) (x2 : Int) (z0 : Int) (z1 : Int) : d_x8_row_95 N r_row  s x1 x2 z0 z1 = some R → vT sc d 182 95 [(0, .ref 77), (1, vi x1), (2, vi x2)] [vl z0, vi z1, .ref 98] s (fun r => r = qV R) := by
  obtain ⟨d, rfl⟩ : ∃ d', d = d' + 1 := ⟨d - 1, by omega⟩
  unfold d_x8_row_95
  refine vLas 96 rfl i182_95 sh_98 rfl (fun s22 => ?_)
  refine vLan 97 i182_96 rfl rfl ?_
  refine vCallV 100 [.ref 77] [] [(0, .ref 77)] i182_97 rfl (xlk0 l182_238) (Or.inl rfl) m167 rfl rfl (Nat.le_of_ble_eq_true rfl) (Nat.le_of_ble_eq_true rfl) (Nat.le_of_ble_eq_true rfl) (xh0 sh_77 (by decide)) rfl rfl (fun R1 => c_x8_next N   (by omega) s22 ) (fun s23 => ?_)
  refine vLan 101 i182_100 rfl rfl ?_
  refine vGetC 104 i182_101 f182_73 sh_77 rfl rfl ?_
  refine vLin 105 i182_104 rfl rfl ?_
  refine vLin 106 i182_105 rfl rfl ?_
  refine vK 107 i182_106 rfl ?_
  refine vCeq 122 110 rfl (show w32 3 = 3 from rfl) i182_107 rfl rfl ?_ ?_
  · exact fun hD => c_x8_row_122 N r_row e hr_row hd  s23 x1 x2 x1 hD
  · refine vLin 111 i182_110 rfl rfl ?_
    refine vKb 113 i182_111 (by decide) rfl ?_
    refine vCeq 122 116 rfl (show w32 6 = 6 from rfl) i182_113 rfl rfl ?_ ?_
    · exact fun hD => c_x8_row_122 N r_row e hr_row hd  s23 x1 x2 x1 hD
    · refine vLin 117 i182_116 rfl rfl ?_
      refine vKb 119 i182_117 (by decide) rfl ?_
      refine vCne 130 122 rfl (show w32 10 = 10 from rfl) i182_119 rfl rfl ?_ ?_
      · refine vLin 131 i182_130 rfl rfl ?_
        refine vK 132 i182_131 rfl ?_
        refine vCeq 140 135 rfl (show w32 4 = 4 from rfl) i182_132 rfl rfl ?_ ?_
        · exact fun hD => c_x8_row_140 N r_row e hr_row hd  s23 x1 x2 x1 hD
        · refine vLin 136 i182_135 rfl rfl ?_
          refine vK 137 i182_136 rfl ?_
          refine vCne 148 140 rfl (show w32 5 = 5 from rfl) i182_137 rfl rfl ?_ ?_
          · refine vK 149 i182_148 rfl ?_
            exact fun hD => c_x8_row_149 N r_row e hr_row hd  s23 x1 x2 0 x1 hD
          · exact fun hD => c_x8_row_140 N r_row e hr_row hd  s23 x1 x2 x1 hD
      · exact fun hD => c_x8_row_122 N r_row e hr_row hd  s23 x1 x2 x1 hD
def d_x8_row_24 (N : Nat) (r_row : St → Option Rs)  (s : St)  : Option Rs :=
  bV (d_x8_fail N  s ) fun s25 => some (s25, 0)
set_option maxHeartbeats 4000000 in
set_option maxRecDepth 100000 in
theorem c_x8_row_24 {sc : xS} {d : Nat} {R : Rs} (N : Nat) (r_row : St → Option Rs) (e : Nat) (hr_row : ∀ d, e ≤ d → ∀ (s : St)  (R : Rs), r_row s  = some R → vT sc d 182 0 [(0, .ref 77)] [] s (fun r => r = qV R)) (hd : e + 8 ≤ d)   (s : St)  : d_x8_row_24 N r_row  s  = some R → vT sc d 182 24 [(0, .ref 77)] [] s (fun r => r = qV R) := by
  obtain ⟨d, rfl⟩ : ∃ d', d = d' + 1 := ⟨d - 1, by omega⟩
  unfold d_x8_row_24
  refine vLan 25 i182_24 rfl rfl ?_
  refine vCallV 28 [.ref 77] [] [(0, .ref 77)] i182_25 rfl (xlk0 l182_245) (Or.inl rfl) m130 rfl rfl (Nat.le_of_ble_eq_true rfl) (Nat.le_of_ble_eq_true rfl) (Nat.le_of_ble_eq_true rfl) (xh0 sh_77 (by decide)) rfl rfl (fun R1 => c_x8_fail N   (by omega) s ) (fun s25 => ?_)
  exact vR0 i182_28 m182
def d_x8_row (N : Nat) (r_row : St → Option Rs)  (s : St)  : Option Rs :=
  (if (w32 (s 77 24)) = 0 then (if (w32 (s 77 21)) = 1 then (if (w32 (s 77 26)) = 24 then d_x8_row_24 N r_row  s  else bd (s 77 26) fun v27 => bI (d_x8_kindOf N  s ) fun s28 v29 => bd (up s28 77 26 ((s28 77 26) + 1)) fun s30 => if 0 ≤ (w32 v27) ∧ (w32 v27) < ((24 : Nat) : Int) then bd (up s30 95 (Int.toNat (w32 v27)) v29) fun s31 => if 0 ≤ (w32 v27) ∧ (w32 v27) < ((24 : Nat) : Int) then bd (up s31 96 (Int.toNat (w32 v27)) 0) fun s32 => if 0 ≤ (w32 v27) ∧ (w32 v27) < ((24 : Nat) : Int) then bd (up s32 100 (Int.toNat (w32 v27)) 0) fun s33 => (if (w32 v29) = 0 then bI (d_x8_byteAt N  s33 (s33 77 22)) fun s34 v35 => d_x8_row_95 N r_row  s34 v27 v29 (w32 (v35 - 97)) v27 else d_x8_row_95 N r_row  s33 v27 v29 0 v27) else none else none else none) else d_x8_row_24 N r_row  s ) else d_x8_row_24 N r_row  s )
set_option maxHeartbeats 4000000 in
set_option maxRecDepth 100000 in
theorem c_x8_row {sc : xS} {d : Nat} {R : Rs} (N : Nat) (r_row : St → Option Rs) (e : Nat) (hr_row : ∀ d, e ≤ d → ∀ (s : St)  (R : Rs), r_row s  = some R → vT sc d 182 0 [(0, .ref 77)] [] s (fun r => r = qV R)) (hd : e + 8 ≤ d)   (s : St)  : d_x8_row N r_row  s  = some R → vT sc d 182 0 [(0, .ref 77)] [] s (fun r => r = qV R) := by
  obtain ⟨d, rfl⟩ : ∃ d', d = d' + 1 := ⟨d - 1, by omega⟩
  unfold d_x8_row
  refine vLan 1 i182_0 rfl rfl ?_
  refine vGet 4 i182_1 f182_218 sh_77 rfl rfl ?_
  refine vZne 24 7 rfl i182_4 rfl rfl ?_ ?_
  · exact fun hD => c_x8_row_24 N r_row e hr_row hd  s  hD
  · refine vLan 8 i182_7 rfl rfl ?_
    refine vGet 11 i182_8 f182_196 sh_77 rfl rfl ?_
    refine vK 12 i182_11 rfl ?_
    refine vCne 24 15 rfl (show w32 1 = 1 from rfl) i182_12 rfl rfl ?_ ?_
    · exact fun hD => c_x8_row_24 N r_row e hr_row hd  s  hD
    · refine vLan 16 i182_15 rfl rfl ?_
      refine vGet 19 i182_16 f182_248 sh_77 rfl rfl ?_
      refine vKb 21 i182_19 (by decide) rfl ?_
      refine vCne 29 24 rfl (show w32 24 = 24 from rfl) i182_21 rfl rfl ?_ ?_
      · refine vLan 30 i182_29 rfl rfl ?_
        refine vGet 33 i182_30 f182_248 sh_77 rfl rfl ?_
        refine vSin 34 (fun v27 => [(1, vi v27), (0, .ref 77)]) i182_33 m182 (by decide) (fun v27 => (rfl : xst1 [(0, .ref 77)] 1 (vi v27) = [(1, vi v27), (0, .ref 77)])) rfl (fun v27 => ?_)
        refine vLan 35 i182_34 rfl rfl ?_
        refine vCallI 38 [.ref 77] [] [(0, .ref 77)] i182_35 rfl (xlk0 l182_203) (Or.inl rfl) m158 rfl rfl (Nat.le_of_ble_eq_true rfl) (Nat.le_of_ble_eq_true rfl) (Nat.le_of_ble_eq_true rfl) (xh0 sh_77 (by decide)) rfl rfl (fun R1 => c_x8_kindOf N   (by omega) s ) (fun s28 v29 => ?_)
        refine vSin0 39 [(2, vi v29), (1, vi v27), (0, .ref 77)] i182_38 m182 (by decide) rfl rfl ?_
        refine vLan 40 i182_39 rfl rfl ?_
        refine vD 41 i182_40 rfl rfl rfl ?_
        refine vGet 44 i182_41 f182_248 sh_77 rfl rfl ?_
        refine vK 45 i182_44 rfl ?_
        refine vIadd 46 i182_45 rfl ?_
        refine vPut 49 i182_46 p182_248 sh_77 rfl rfl (fun s30 => ?_)
        refine vLan 50 i182_49 rfl rfl ?_
        refine vGetC 53 i182_50 f182_70 sh_77 rfl rfl ?_
        refine vLin 54 i182_53 rfl rfl ?_
        refine vLin 55 i182_54 rfl rfl ?_
        refine vIas 56 rfl i182_55 sh_95 rfl (fun s31 => ?_)
        refine vLan 57 i182_56 rfl rfl ?_
        refine vGetC 60 i182_57 f182_73 sh_77 rfl rfl ?_
        refine vLin 61 i182_60 rfl rfl ?_
        refine vK 62 i182_61 rfl ?_
        refine vIas 63 rfl i182_62 sh_96 rfl (fun s32 => ?_)
        refine vLan 64 i182_63 rfl rfl ?_
        refine vGetC 67 i182_64 f182_85 sh_77 rfl rfl ?_
        refine vLin 68 i182_67 rfl rfl ?_
        refine vK 69 i182_68 rfl ?_
        refine vIas 70 rfl i182_69 sh_100 rfl (fun s33 => ?_)
        refine vLan 71 i182_70 rfl rfl ?_
        refine vGetC 74 i182_71 f182_79 sh_77 rfl rfl ?_
        refine vLin 75 i182_74 rfl rfl ?_
        refine vLin 76 i182_75 rfl rfl ?_
        refine vZne 94 79 rfl i182_76 rfl rfl ?_ ?_
        · refine vKl 95 0 i182_94 (by decide) rfl ?_
          exact fun hD => tLc [(0, .ref 77), (1, vi v27), (2, vi v29)] (xNdk [0, 1, 2] rfl (by decide)) (xNdk [2, 1, 0] rfl (by decide)) ⟨rfl, rfl, rfl, trivial⟩ (c_x8_row_95 N r_row e hr_row hd  s33 v27 v29 0 v27 hD)
        · refine vLan 80 i182_79 rfl rfl ?_
          refine vLan 81 i182_80 rfl rfl ?_
          refine vGet 84 i182_81 f182_193 sh_77 rfl rfl ?_
          refine vCallI 87 [.ref 77, vi (s33 77 22)] [vi v27, .ref 98] [(0, .ref 77), (1, vi (s33 77 22))] i182_84 rfl (xlk0 l182_189) (Or.inl rfl) m122 rfl rfl (Nat.le_of_ble_eq_true rfl) (Nat.le_of_ble_eq_true rfl) (Nat.le_of_ble_eq_true rfl) (xh0 sh_77 (by decide)) rfl rfl (fun R1 => c_x8_byteAt N   (by omega) s33 (s33 77 22)) (fun s34 v35 => ?_)
          refine vKb 89 i182_87 (by decide) rfl ?_
          refine vIsub 90 i182_89 rfl ?_
          refine vI2l 91 i182_90 rfl ?_
          refine vGo 95 i182_91 rfl ?_
          exact fun hD => tLc [(0, .ref 77), (1, vi v27), (2, vi v29)] (xNdk [0, 1, 2] rfl (by decide)) (xNdk [2, 1, 0] rfl (by decide)) ⟨rfl, rfl, rfl, trivial⟩ (c_x8_row_95 N r_row e hr_row hd  s34 v27 v29 (w32 (v35 - 97)) v27 hD)
      · exact fun hD => c_x8_row_24 N r_row e hr_row hd  s  hD
