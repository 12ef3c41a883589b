theorem f16_20 : xFld xg 16 20 = some (1, 1) := by decide +kernel
theorem f16_24 : xFld xg 16 24 = some (1, 2) := by decide +kernel
theorem i16_0 : xIns xg 16 0 = some (.aload_n 0) := by decide +kernel
theorem i16_1 : xIns xg 16 1 = some (.getfield 20) := by decide +kernel
theorem i16_4 : xIns xg 16 4 = some (.bipush 120) := by decide +kernel
theorem i16_6 : xIns xg 16 6 = some (.if_icmp .lt 6) := by decide +kernel
theorem i16_12 : xIns xg 16 12 = some (.aload_n 0) := by decide +kernel
theorem i16_13 : xIns xg 16 13 = some (.getfield 24) := by decide +kernel
theorem i16_16 : xIns xg 16 16 = some (.aload_n 0) := by decide +kernel
theorem i16_17 : xIns xg 16 17 = some (.getfield 20) := by decide +kernel
theorem i16_20 : xIns xg 16 20 = some (.iload_n 1) := by decide +kernel
theorem i16_21 : xIns xg 16 21 = some (.iastore) := by decide +kernel
theorem i16_22 : xIns xg 16 22 = some (.aload_n 0) := by decide +kernel
theorem i16_23 : xIns xg 16 23 = some (.dup) := by decide +kernel
theorem i16_24 : xIns xg 16 24 = some (.getfield 20) := by decide +kernel
theorem i16_27 : xIns xg 16 27 = some (.iconst 1) := by decide +kernel
theorem i16_28 : xIns xg 16 28 = some (.iadd) := by decide +kernel
theorem i16_29 : xIns xg 16 29 = some (.putfield 20) := by decide +kernel
theorem p16_20 : xPut xg 16 20 = some (1, 1, .int) := by decide +kernel
theorem i16_32 : xIns xg 16 32 = some (.aload_n 0) := by decide +kernel
theorem i16_33 : xIns xg 16 33 = some (.getfield 20) := by decide +kernel
theorem i16_36 : xIns xg 16 36 = some (.ireturn) := by decide +kernel
theorem m16 : (xMet xg 16).2.2 = (2, (some .int)) := by decide +kernel
theorem i16_9 : xIns xg 16 9 = some (.bipush (-4)) := by decide +kernel
theorem i16_11 : xIns xg 16 11 = some (.ireturn) := by decide +kernel
def d_x2_addByte (N : Nat)  (s : St) (a0 : Int) : Option Rs :=
  (if (w32 (s 1 1)) < 120 then if 0 ≤ (w32 (s 1 1)) ∧ (w32 (s 1 1)) < ((120 : Nat) : Int) then bd (up s 11 (Int.toNat (w32 (s 1 1))) a0) fun s1 => bd (up s1 1 1 ((s1 1 1) + 1)) fun s2 => some (s2, (s2 1 1)) else none else some (s, (-4)))
set_option maxHeartbeats 4000000 in
set_option maxRecDepth 100000 in
theorem c_x2_addByte {sc : xS} {d : Nat} {R : Rs} (N : Nat)  (hd : 0 ≤ d)   (s : St) (a0 : Int) : d_x2_addByte N  s a0 = some R → vT sc d 16 0 [(0, .ref 1), (1, vi a0)] [] s (fun r => r = qI R) := by
  unfold d_x2_addByte
  refine vLan 1 i16_0 rfl rfl ?_
  refine vGet 4 i16_1 f16_20 sh_1 rfl rfl ?_
  refine vKb 6 i16_4 (by decide) rfl ?_
  refine vClt 12 9 rfl (show w32 120 = 120 from rfl) i16_6 rfl rfl ?_ ?_
  · refine vLan 13 i16_12 rfl rfl ?_
    refine vGetC 16 i16_13 f16_24 sh_1 rfl rfl ?_
    refine vLan 17 i16_16 rfl rfl ?_
    refine vGet 20 i16_17 f16_20 sh_1 rfl rfl ?_
    refine vLin 21 i16_20 rfl rfl ?_
    refine vIas 22 rfl i16_21 sh_11 rfl (fun s1 => ?_)
    refine vLan 23 i16_22 rfl rfl ?_
    refine vD 24 i16_23 rfl rfl rfl ?_
    refine vGet 27 i16_24 f16_20 sh_1 rfl rfl ?_
    refine vK 28 i16_27 rfl ?_
    refine vIadd 29 i16_28 rfl ?_
    refine vPut 32 i16_29 p16_20 sh_1 rfl rfl (fun s2 => ?_)
    refine vLan 33 i16_32 rfl rfl ?_
    refine vGet 36 i16_33 f16_20 sh_1 rfl rfl ?_
    exact vRi i16_36 m16 rfl
  · refine vKb 11 i16_9 (by decide) rfl ?_
    exact vRi i16_11 m16 rfl
theorem f22_40 : xFld xg 22 40 = some (1, 7) := by decide +kernel
theorem f22_28 : xFld xg 22 28 = some (1, 3) := by decide +kernel
theorem f22_37 : xFld xg 22 37 = some (1, 6) := by decide +kernel
theorem i22_0 : xIns xg 22 0 = some (.aload_n 0) := by decide +kernel
theorem i22_1 : xIns xg 22 1 = some (.getfield 40) := by decide +kernel
theorem i22_4 : xIns xg 22 4 = some (.iconst (-1)) := by decide +kernel
theorem i22_5 : xIns xg 22 5 = some (.if_icmp .ne 16) := by decide +kernel
theorem i22_21 : xIns xg 22 21 = some (.return_) := by decide +kernel
theorem m22 : (xMet xg 22).2.2 = (1, none) := by decide +kernel
theorem i22_8 : xIns xg 22 8 = some (.aload_n 0) := by decide +kernel
theorem i22_9 : xIns xg 22 9 = some (.aload_n 0) := by decide +kernel
theorem i22_10 : xIns xg 22 10 = some (.getfield 28) := by decide +kernel
theorem i22_13 : xIns xg 22 13 = some (.aload_n 0) := by decide +kernel
theorem i22_14 : xIns xg 22 14 = some (.getfield 37) := by decide +kernel
theorem i22_17 : xIns xg 22 17 = some (.iaload) := by decide +kernel
theorem i22_18 : xIns xg 22 18 = some (.putfield 40) := by decide +kernel
theorem p22_40 : xPut xg 22 40 = some (1, 7, .int) := by decide +kernel
def d_x2_miss (N : Nat)  (s : St)  : Option Rs :=
  (if (w32 (s 1 7)) = (-1) then if 0 ≤ (w32 (s 1 6)) ∧ (w32 (s 1 6)) < ((121 : Nat) : Int) then bd (up s 1 7 (s 12 (Int.toNat (w32 (s 1 6))))) fun s1 => some (s1, 0) else none else some (s, 0))
set_option maxHeartbeats 4000000 in
set_option maxRecDepth 100000 in
theorem c_x2_miss {sc : xS} {d : Nat} {R : Rs} (N : Nat)  (hd : 0 ≤ d)   (s : St)  : d_x2_miss N  s  = some R → vT sc d 22 0 [(0, .ref 1)] [] s (fun r => r = qV R) := by
  unfold d_x2_miss
  refine vLan 1 i22_0 rfl rfl ?_
  refine vGet 4 i22_1 f22_40 sh_1 rfl rfl ?_
  refine vK 5 i22_4 rfl ?_
  refine vCne 21 8 rfl (show w32 (-1) = (-1) from rfl) i22_5 rfl rfl ?_ ?_
  · exact vR0 i22_21 m22
  · refine vLan 9 i22_8 rfl rfl ?_
    refine vLan 10 i22_9 rfl rfl ?_
    refine vGetC 13 i22_10 f22_28 sh_1 rfl rfl ?_
    refine vLan 14 i22_13 rfl rfl ?_
    refine vGet 17 i22_14 f22_37 sh_1 rfl rfl ?_
    refine vIal 18 rfl i22_17 sh_12 rfl ?_
    refine vPut 21 i22_18 p22_40 sh_1 rfl rfl (fun s1 => ?_)
    exact vR0 i22_21 m22
theorem f18_31 : xFld xg 18 31 = some (1, 4) := by decide +kernel
theorem f18_37 : xFld xg 18 37 = some (1, 6) := by decide +kernel
theorem f18_34 : xFld xg 18 34 = some (1, 5) := by decide +kernel
theorem i18_0 : xIns xg 18 0 = some (.aload_n 0) := by decide +kernel
theorem i18_1 : xIns xg 18 1 = some (.getfield 31) := by decide +kernel
theorem i18_4 : xIns xg 18 4 = some (.aload_n 0) := by decide +kernel
theorem i18_5 : xIns xg 18 5 = some (.getfield 37) := by decide +kernel
theorem i18_8 : xIns xg 18 8 = some (.iaload) := by decide +kernel
theorem i18_9 : xIns xg 18 9 = some (.iconst 3) := by decide +kernel
theorem i18_10 : xIns xg 18 10 = some (.if_icmp .ne 20) := by decide +kernel
theorem i18_30 : xIns xg 18 30 = some (.iconst 0) := by decide +kernel
theorem i18_31 : xIns xg 18 31 = some (.ireturn) := by decide +kernel
theorem m18 : (xMet xg 18).2.2 = (2, (some .boolean)) := by decide +kernel
theorem i18_13 : xIns xg 18 13 = some (.aload_n 0) := by decide +kernel
theorem i18_14 : xIns xg 18 14 = some (.getfield 34) := by decide +kernel
theorem i18_17 : xIns xg 18 17 = some (.aload_n 0) := by decide +kernel
theorem i18_18 : xIns xg 18 18 = some (.getfield 37) := by decide +kernel
theorem i18_21 : xIns xg 18 21 = some (.iaload) := by decide +kernel
theorem i18_22 : xIns xg 18 22 = some (.iload_n 1) := by decide +kernel
theorem i18_23 : xIns xg 18 23 = some (.if_icmp .ne 7) := by decide +kernel
theorem i18_26 : xIns xg 18 26 = some (.iconst 1) := by decide +kernel
theorem i18_27 : xIns xg 18 27 = some (.goto 4) := by decide +kernel
def d_x2_isSign (N : Nat)  (s : St) (a0 : Int) : Option Rs :=
  if 0 ≤ (w32 (s 1 6)) ∧ (w32 (s 1 6)) < ((121 : Nat) : Int) then (if (w32 (s 13 (Int.toNat (w32 (s 1 6))))) = 3 then if 0 ≤ (w32 (s 1 6)) ∧ (w32 (s 1 6)) < ((121 : Nat) : Int) then (if (w32 (s 14 (Int.toNat (w32 (s 1 6))))) = (w32 a0) then some (s, 1) else some (s, 0)) else none else some (s, 0)) else none
set_option maxHeartbeats 4000000 in
set_option maxRecDepth 100000 in
theorem c_x2_isSign {sc : xS} {d : Nat} {R : Rs} (N : Nat)  (hd : 0 ≤ d)   (s : St) (a0 : Int) : d_x2_isSign N  s a0 = some R → vT sc d 18 0 [(0, .ref 1), (1, vi a0)] [] s (fun r => r = qI R) := by
  unfold d_x2_isSign
  refine vLan 1 i18_0 rfl rfl ?_
  refine vGetC 4 i18_1 f18_31 sh_1 rfl rfl ?_
  refine vLan 5 i18_4 rfl rfl ?_
  refine vGet 8 i18_5 f18_37 sh_1 rfl rfl ?_
  refine vIal 9 rfl i18_8 sh_13 rfl ?_
  refine vK 10 i18_9 rfl ?_
  refine vCne 30 13 rfl (show w32 3 = 3 from rfl) i18_10 rfl rfl ?_ ?_
  · refine vK 31 i18_30 rfl ?_
    exact vRi i18_31 m18 (by decide)
  · refine vLan 14 i18_13 rfl rfl ?_
    refine vGetC 17 i18_14 f18_34 sh_1 rfl rfl ?_
    refine vLan 18 i18_17 rfl rfl ?_
    refine vGet 21 i18_18 f18_37 sh_1 rfl rfl ?_
    refine vIal 22 rfl i18_21 sh_14 rfl ?_
    refine vLin 23 i18_22 rfl rfl ?_
    refine vCne 30 26 rfl rfl i18_23 rfl rfl ?_ ?_
    · refine vK 31 i18_30 rfl ?_
      exact vRi i18_31 m18 (by decide)
    · refine vK 27 i18_26 rfl ?_
      refine vGo 31 i18_27 rfl ?_
      exact vRi i18_31 m18 (by decide)
theorem f25_34 : xFld xg 25 34 = some (1, 5) := by decide +kernel
theorem f25_37 : xFld xg 25 37 = some (1, 6) := by decide +kernel
theorem f25_31 : xFld xg 25 31 = some (1, 4) := by decide +kernel
theorem i25_33 : xIns xg 25 33 = some (.aload_n 0) := by decide +kernel
theorem i25_34 : xIns xg 25 34 = some (.invokevirtual 58) := by decide +kernel
theorem i25_37 : xIns xg 25 37 = some (.iload_n 1) := by decide +kernel
theorem i25_38 : xIns xg 25 38 = some (.ireturn) := by decide +kernel
theorem m25 : (xMet xg 25).2.2 = (4, (some .int)) := by decide +kernel
theorem i25_0 : xIns xg 25 0 = some (.aload_n 0) := by decide +kernel
theorem i25_1 : xIns xg 25 1 = some (.getfield 34) := by decide +kernel
theorem i25_4 : xIns xg 25 4 = some (.aload_n 0) := by decide +kernel
theorem i25_5 : xIns xg 25 5 = some (.getfield 37) := by decide +kernel
theorem i25_8 : xIns xg 25 8 = some (.iaload) := by decide +kernel
theorem i25_9 : xIns xg 25 9 = some (.istore_n 3) := by decide +kernel
theorem i25_10 : xIns xg 25 10 = some (.aload_n 0) := by decide +kernel
theorem i25_11 : xIns xg 25 11 = some (.getfield 31) := by decide +kernel
theorem i25_14 : xIns xg 25 14 = some (.aload_n 0) := by decide +kernel
theorem i25_15 : xIns xg 25 15 = some (.getfield 37) := by decide +kernel
theorem i25_18 : xIns xg 25 18 = some (.iaload) := by decide +kernel
theorem i25_19 : xIns xg 25 19 = some (.iconst 2) := by decide +kernel
theorem i25_20 : xIns xg 25 20 = some (.if_icmp .ne 13) := by decide +kernel
theorem i25_23 : xIns xg 25 23 = some (.iload_n 3) := by decide +kernel
theorem i25_24 : xIns xg 25 24 = some (.iload_n 1) := by decide +kernel
theorem i25_25 : xIns xg 25 25 = some (.if_icmp .lt 8) := by decide +kernel
theorem i25_28 : xIns xg 25 28 = some (.iload_n 3) := by decide +kernel
theorem i25_29 : xIns xg 25 29 = some (.iload_n 2) := by decide +kernel
theorem i25_30 : xIns xg 25 30 = some (.if_icmp .le 9) := by decide +kernel
theorem i25_39 : xIns xg 25 39 = some (.aload_n 0) := by decide +kernel
theorem i25_40 : xIns xg 25 40 = some (.dup) := by decide +kernel
theorem i25_41 : xIns xg 25 41 = some (.getfield 37) := by decide +kernel
theorem i25_44 : xIns xg 25 44 = some (.iconst 1) := by decide +kernel
theorem i25_45 : xIns xg 25 45 = some (.iadd) := by decide +kernel
theorem i25_46 : xIns xg 25 46 = some (.putfield 37) := by decide +kernel
theorem p25_37 : xPut xg 25 37 = some (1, 6, .int) := by decide +kernel
theorem i25_49 : xIns xg 25 49 = some (.iload_n 3) := by decide +kernel
theorem i25_50 : xIns xg 25 50 = some (.ireturn) := by decide +kernel
def d_x2_readNumber_33 (N : Nat)  (s : St) (x1 : Int) : Option Rs :=
  bV (d_x2_miss N  s ) fun s1 => some (s1, x1)
set_option maxHeartbeats 4000000 in
set_option maxRecDepth 100000 in
theorem c_x2_readNumber_33 {sc : xS} {d : Nat} {R : Rs} (N : Nat)  (hd : 1 ≤ d)   (s : St) (x1 : Int) : d_x2_readNumber_33 N  s x1 = some R → vT sc d 25 33 [(0, .ref 1), (1, vi x1)] [] s (fun r => r = qI R) := by
  obtain ⟨d, rfl⟩ : ∃ d', d = d' + 1 := ⟨d - 1, by omega⟩
  unfold d_x2_readNumber_33
  refine vLan 34 i25_33 rfl rfl ?_
  refine vCallV 37 [.ref 1] [] [(0, .ref 1)] i25_34 rfl (xlk0 l25_58) (Or.inl rfl) m22 rfl rfl (Nat.le_of_ble_eq_true rfl) (Nat.le_of_ble_eq_true rfl) (Nat.le_of_ble_eq_true rfl) (xh0 sh_1 (by decide)) rfl rfl (fun R1 => c_x2_miss N   (by omega) s ) (fun s1 => ?_)
  refine vLin 38 i25_37 rfl rfl ?_
  exact vRi i25_38 m25 rfl
def d_x2_readNumber (N : Nat)  (s : St) (a0 : Int) (a1 : Int) : Option Rs :=
  if 0 ≤ (w32 (s 1 6)) ∧ (w32 (s 1 6)) < ((121 : Nat) : Int) then bd (s 14 (Int.toNat (w32 (s 1 6)))) fun v3 => if 0 ≤ (w32 (s 1 6)) ∧ (w32 (s 1 6)) < ((121 : Nat) : Int) then (if (w32 (s 13 (Int.toNat (w32 (s 1 6))))) = 2 then (if (w32 v3) < (w32 a0) then d_x2_readNumber_33 N  s a0 else (if (w32 a1) < (w32 v3) then d_x2_readNumber_33 N  s a0 else bd (up s 1 6 ((s 1 6) + 1)) fun s4 => some (s4, v3))) else d_x2_readNumber_33 N  s a0) else none else none
set_option maxHeartbeats 4000000 in
set_option maxRecDepth 100000 in
theorem c_x2_readNumber {sc : xS} {d : Nat} {R : Rs} (N : Nat)  (hd : 1 ≤ d)   (s : St) (a0 : Int) (a1 : Int) : d_x2_readNumber N  s a0 a1 = some R → vT sc d 25 0 [(0, .ref 1), (1, vi a0), (2, vi a1)] [] s (fun r => r = qI R) := by
  obtain ⟨d, rfl⟩ : ∃ d', d = d' + 1 := ⟨d - 1, by omega⟩
  unfold d_x2_readNumber
  refine vLan 1 i25_0 rfl rfl ?_
  refine vGetC 4 i25_1 f25_34 sh_1 rfl rfl ?_
  refine vLan 5 i25_4 rfl rfl ?_
  refine vGet 8 i25_5 f25_37 sh_1 rfl rfl ?_
  refine vIal 9 rfl i25_8 sh_14 rfl ?_
  refine vSin 10 (fun v3 => [(3, vi v3), (0, .ref 1), (1, vi a0), (2, vi a1)]) i25_9 m25 (by decide) (fun v3 => (rfl : xst1 [(0, .ref 1), (1, vi a0), (2, vi a1)] 3 (vi v3) = [(3, vi v3), (0, .ref 1), (1, vi a0), (2, vi a1)])) rfl (fun v3 => ?_)
  refine vLan 11 i25_10 rfl rfl ?_
  refine vGetC 14 i25_11 f25_31 sh_1 rfl rfl ?_
  refine vLan 15 i25_14 rfl rfl ?_
  refine vGet 18 i25_15 f25_37 sh_1 rfl rfl ?_
  refine vIal 19 rfl i25_18 sh_13 rfl ?_
  refine vK 20 i25_19 rfl ?_
  refine vCne 33 23 rfl (show w32 2 = 2 from rfl) i25_20 rfl rfl ?_ ?_
  · exact fun hD => tLc [(0, .ref 1), (1, vi a0)] (xNdk [0, 1] rfl (by decide)) (xNdk [3, 0, 1, 2] rfl (by decide)) ⟨rfl, rfl, trivial⟩ (c_x2_readNumber_33 N  hd  s a0 hD)
  · refine vLin 24 i25_23 rfl rfl ?_
    refine vLin 25 i25_24 rfl rfl ?_
    refine vClt 33 28 rfl rfl i25_25 rfl rfl ?_ ?_
    · exact fun hD => tLc [(0, .ref 1), (1, vi a0)] (xNdk [0, 1] rfl (by decide)) (xNdk [3, 0, 1, 2] rfl (by decide)) ⟨rfl, rfl, trivial⟩ (c_x2_readNumber_33 N  hd  s a0 hD)
    · refine vLin 29 i25_28 rfl rfl ?_
      refine vLin 30 i25_29 rfl rfl ?_
      refine vCle 39 33 rfl rfl i25_30 rfl rfl ?_ ?_
      · refine vLan 40 i25_39 rfl rfl ?_
        refine vD 41 i25_40 rfl rfl rfl ?_
        refine vGet 44 i25_41 f25_37 sh_1 rfl rfl ?_
        refine vK 45 i25_44 rfl ?_
        refine vIadd 46 i25_45 rfl ?_
        refine vPut 49 i25_46 p25_37 sh_1 rfl rfl (fun s4 => ?_)
        refine vLin 50 i25_49 rfl rfl ?_
        exact vRi i25_50 m25 rfl
      · exact fun hD => tLc [(0, .ref 1), (1, vi a0)] (xNdk [0, 1] rfl (by decide)) (xNdk [3, 0, 1, 2] rfl (by decide)) ⟨rfl, rfl, trivial⟩ (c_x2_readNumber_33 N  hd  s a0 hD)
theorem f24_37 : xFld xg 24 37 = some (1, 6) := by decide +kernel
theorem i24_21 : xIns xg 24 21 = some (.aload_n 0) := by decide +kernel
theorem i24_22 : xIns xg 24 22 = some (.iconst 0) := by decide +kernel
theorem i24_23 : xIns xg 24 23 = some (.sipush 9999) := by decide +kernel
theorem i24_26 : xIns xg 24 26 = some (.invokevirtual 112) := by decide +kernel
theorem i24_29 : xIns xg 24 29 = some (.istore_n 2) := by decide +kernel
theorem m24 : (xMet xg 24).2.2 = (3, (some .int)) := by decide +kernel
theorem i24_30 : xIns xg 24 30 = some (.iload_n 1) := by decide +kernel
theorem i24_31 : xIns xg 24 31 = some (.ifCond .eq 8) := by decide +kernel
theorem i24_39 : xIns xg 24 39 = some (.iload_n 2) := by decide +kernel
theorem i24_40 : xIns xg 24 40 = some (.ireturn) := by decide +kernel
theorem i24_34 : xIns xg 24 34 = some (.iload_n 2) := by decide +kernel
theorem i24_35 : xIns xg 24 35 = some (.ineg) := by decide +kernel
theorem i24_36 : xIns xg 24 36 = some (.goto 4) := by decide +kernel
theorem i24_0 : xIns xg 24 0 = some (.aload_n 0) := by decide +kernel
theorem i24_1 : xIns xg 24 1 = some (.bipush 45) := by decide +kernel
theorem i24_3 : xIns xg 24 3 = some (.invokevirtual 122) := by decide +kernel
theorem i24_6 : xIns xg 24 6 = some (.istore_n 1) := by decide +kernel
theorem i24_7 : xIns xg 24 7 = some (.iload_n 1) := by decide +kernel
theorem i24_8 : xIns xg 24 8 = some (.ifCond .eq 13) := by decide +kernel
theorem i24_11 : xIns xg 24 11 = some (.aload_n 0) := by decide +kernel
theorem i24_12 : xIns xg 24 12 = some (.dup) := by decide +kernel
theorem i24_13 : xIns xg 24 13 = some (.getfield 37) := by decide +kernel
theorem i24_16 : xIns xg 24 16 = some (.iconst 1) := by decide +kernel
theorem i24_17 : xIns xg 24 17 = some (.iadd) := by decide +kernel
theorem i24_18 : xIns xg 24 18 = some (.putfield 37) := by decide +kernel
theorem p24_37 : xPut xg 24 37 = some (1, 6, .int) := by decide +kernel
def d_x2_readNum_21 (N : Nat)  (s : St) (x1 : Int) : Option Rs :=
  bI (d_x2_readNumber N  s 0 9999) fun s1 v2 => (if (w32 x1) = 0 then some (s1, v2) else some (s1, (-v2)))
set_option maxHeartbeats 4000000 in
set_option maxRecDepth 100000 in
theorem c_x2_readNum_21 {sc : xS} {d : Nat} {R : Rs} (N : Nat)  (hd : 2 ≤ d)   (s : St) (x1 : Int) : d_x2_readNum_21 N  s x1 = some R → vT sc d 24 21 [(0, .ref 1), (1, vi x1)] [] s (fun r => r = qI R) := by
  obtain ⟨d, rfl⟩ : ∃ d', d = d' + 1 := ⟨d - 1, by omega⟩
  unfold d_x2_readNum_21
  refine vLan 22 i24_21 rfl rfl ?_
  refine vK 23 i24_22 rfl ?_
  refine vKs 26 i24_23 (by decide) rfl ?_
  refine vCallI 29 [.ref 1, vi 0, vi 9999] [] [(0, .ref 1), (1, vi 0), (2, vi 9999)] i24_26 rfl (xlk0 l24_112) (Or.inl rfl) m25 rfl rfl (Nat.le_of_ble_eq_true rfl) (Nat.le_of_ble_eq_true rfl) (Nat.le_of_ble_eq_true rfl) (xh0 sh_1 (by decide)) rfl rfl (fun R1 => c_x2_readNumber N   (by omega) s 0 9999) (fun s1 v2 => ?_)
  refine vSin0 30 [(2, vi v2), (0, .ref 1), (1, vi x1)] i24_29 m24 (by decide) rfl rfl ?_
  refine vLin 31 i24_30 rfl rfl ?_
  refine vZeq 39 34 rfl i24_31 rfl rfl ?_ ?_
  · refine vLin 40 i24_39 rfl rfl ?_
    exact vRi i24_40 m24 rfl
  · refine vLin 35 i24_34 rfl rfl ?_
    refine vIneg 36 i24_35 rfl ?_
    refine vGo 40 i24_36 rfl ?_
    exact vRi i24_40 m24 rfl
def d_x2_readNum (N : Nat)  (s : St)  : Option Rs :=
  bI (d_x2_isSign N  s 45) fun s3 v4 => (if (w32 v4) = 0 then d_x2_readNum_21 N  s3 v4 else bd (up s3 1 6 ((s3 1 6) + 1)) fun s5 => d_x2_readNum_21 N  s5 v4)
set_option maxHeartbeats 4000000 in
set_option maxRecDepth 100000 in
theorem c_x2_readNum {sc : xS} {d : Nat} {R : Rs} (N : Nat)  (hd : 2 ≤ d)   (s : St)  : d_x2_readNum N  s  = some R → vT sc d 24 0 [(0, .ref 1)] [] s (fun r => r = qI R) := by
  obtain ⟨d, rfl⟩ : ∃ d', d = d' + 1 := ⟨d - 1, by omega⟩
  unfold d_x2_readNum
  refine vLan 1 i24_0 rfl rfl ?_
  refine vKb 3 i24_1 (by decide) rfl ?_
  refine vCallI 6 [.ref 1, vi 45] [] [(0, .ref 1), (1, vi 45)] i24_3 rfl (xlk0 l24_122) (Or.inl rfl) m18 rfl rfl (Nat.le_of_ble_eq_true rfl) (Nat.le_of_ble_eq_true rfl) (Nat.le_of_ble_eq_true rfl) (xh0 sh_1 (by decide)) rfl rfl (fun R1 => c_x2_isSign N   (by omega) s 45) (fun s3 v4 => ?_)
  refine vSin0 7 [(1, vi v4), (0, .ref 1)] i24_6 m24 (by decide) rfl rfl ?_
  refine vLin 8 i24_7 rfl rfl ?_
  refine vZeq 21 11 rfl i24_8 rfl rfl ?_ ?_
  · exact fun hD => tLc [(0, .ref 1), (1, vi v4)] (xNdk [0, 1] rfl (by decide)) (xNdk [1, 0] rfl (by decide)) ⟨rfl, rfl, trivial⟩ (c_x2_readNum_21 N  hd  s3 v4 hD)
  · refine vLan 12 i24_11 rfl rfl ?_
    refine vD 13 i24_12 rfl rfl rfl ?_
    refine vGet 16 i24_13 f24_37 sh_1 rfl rfl ?_
    refine vK 17 i24_16 rfl ?_
    refine vIadd 18 i24_17 rfl ?_
    refine vPut 21 i24_18 p24_37 sh_1 rfl rfl (fun s5 => ?_)
    exact fun hD => tLc [(0, .ref 1), (1, vi v4)] (xNdk [0, 1] rfl (by decide)) (xNdk [1, 0] rfl (by decide)) ⟨rfl, rfl, trivial⟩ (c_x2_readNum_21 N  hd  s5 v4 hD)
theorem f26_14 : xFld xg 26 14 = some (1, 0) := by decide +kernel
theorem f26_126 : xFld xg 26 126 = some (4, 6) := by decide +kernel
theorem f26_40 : xFld xg 26 40 = some (1, 7) := by decide +kernel
theorem f26_118 : xFld xg 26 118 = some (4, 7) := by decide +kernel
theorem f26_37 : xFld xg 26 37 = some (1, 6) := by decide +kernel
theorem i26_74 : xIns xg 26 74 = some (.aload_n 0) := by decide +kernel
theorem i26_75 : xIns xg 26 75 = some (.getfield 14) := by decide +kernel
theorem i26_78 : xIns xg 26 78 = some (.getfield 126) := by decide +kernel
theorem i26_81 : xIns xg 26 81 = some (.iload_n 1) := by decide +kernel
theorem i26_82 : xIns xg 26 82 = some (.iload_n 2) := by decide +kernel
theorem i26_83 : xIns xg 26 83 = some (.iastore) := by decide +kernel
theorem i26_84 : xIns xg 26 84 = some (.iload_n 3) := by decide +kernel
theorem i26_85 : xIns xg 26 85 = some (.ifCond .eq 7) := by decide +kernel
theorem i26_92 : xIns xg 26 92 = some (.return_) := by decide +kernel
theorem m26 : (xMet xg 26).2.2 = (4, none) := by decide +kernel
theorem i26_88 : xIns xg 26 88 = some (.aload_n 0) := by decide +kernel
theorem i26_89 : xIns xg 26 89 = some (.invokevirtual 58) := by decide +kernel
theorem i26_4 : xIns xg 26 4 = some (.iload_n 3) := by decide +kernel
theorem i26_5 : xIns xg 26 5 = some (.ifCond .eq 69) := by decide +kernel
theorem i26_8 : xIns xg 26 8 = some (.iload_n 2) := by decide +kernel
theorem i26_9 : xIns xg 26 9 = some (.bipush 8) := by decide +kernel
theorem i26_11 : xIns xg 26 11 = some (.if_icmp .ge 63) := by decide +kernel
theorem i26_14 : xIns xg 26 14 = some (.aload_n 0) := by decide +kernel
theorem i26_15 : xIns xg 26 15 = some (.getfield 40) := by decide +kernel
theorem i26_18 : xIns xg 26 18 = some (.iconst (-1)) := by decide +kernel
theorem i26_19 : xIns xg 26 19 = some (.if_icmp .ne 55) := by decide +kernel
theorem i26_22 : xIns xg 26 22 = some (.aload_n 0) := by decide +kernel
theorem i26_23 : xIns xg 26 23 = some (.getfield 14) := by decide +kernel
theorem i26_26 : xIns xg 26 26 = some (.getfield 118) := by decide +kernel
theorem i26_29 : xIns xg 26 29 = some (.iload_n 1) := by decide +kernel
theorem i26_30 : xIns xg 26 30 = some (.bipush 8) := by decide +kernel
theorem i26_32 : xIns xg 26 32 = some (.imul) := by decide +kernel
theorem i26_33 : xIns xg 26 33 = some (.iload_n 2) := by decide +kernel
theorem i26_34 : xIns xg 26 34 = some (.iadd) := by decide +kernel
theorem i26_35 : xIns xg 26 35 = some (.aload_n 0) := by decide +kernel
theorem i26_36 : xIns xg 26 36 = some (.invokevirtual 106) := by decide +kernel
theorem i26_39 : xIns xg 26 39 = some (.i2l) := by decide +kernel
theorem i26_40 : xIns xg 26 40 = some (.lastore) := by decide +kernel
theorem i26_41 : xIns xg 26 41 = some (.iinc 2 1) := by decide +kernel
theorem i26_44 : xIns xg 26 44 = some (.aload_n 0) := by decide +kernel
theorem i26_45 : xIns xg 26 45 = some (.bipush 44) := by decide +kernel
theorem i26_47 : xIns xg 26 47 = some (.invokevirtual 122) := by decide +kernel
theorem i26_50 : xIns xg 26 50 = some (.istore_n 3) := by decide +kernel
theorem i26_51 : xIns xg 26 51 = some (.iload_n 3) := by decide +kernel
theorem i26_52 : xIns xg 26 52 = some (.ifCond .eq (-48)) := by decide +kernel
theorem i26_55 : xIns xg 26 55 = some (.iload_n 2) := by decide +kernel
theorem i26_56 : xIns xg 26 56 = some (.bipush 8) := by decide +kernel
theorem i26_58 : xIns xg 26 58 = some (.if_icmp .ge (-54)) := by decide +kernel
theorem i26_61 : xIns xg 26 61 = some (.aload_n 0) := by decide +kernel
theorem i26_62 : xIns xg 26 62 = some (.dup) := by decide +kernel
theorem i26_63 : xIns xg 26 63 = some (.getfield 37) := by decide +kernel
theorem i26_66 : xIns xg 26 66 = some (.iconst 1) := by decide +kernel
theorem i26_67 : xIns xg 26 67 = some (.iadd) := by decide +kernel
theorem i26_68 : xIns xg 26 68 = some (.putfield 37) := by decide +kernel
theorem p26_37 : xPut xg 26 37 = some (1, 6, .int) := by decide +kernel
theorem i26_71 : xIns xg 26 71 = some (.goto (-67)) := by decide +kernel
theorem i26_0 : xIns xg 26 0 = some (.iconst 0) := by decide +kernel
theorem i26_1 : xIns xg 26 1 = some (.istore_n 2) := by decide +kernel
theorem i26_2 : xIns xg 26 2 = some (.iconst 1) := by decide +kernel
theorem i26_3 : xIns xg 26 3 = some (.istore_n 3) := by decide +kernel
def d_x2_readNums_74 (N : Nat)  (s : St) (x1 : Int) (x2 : Int) (x3 : Int) : Option Rs :=
  if 0 ≤ (w32 x1) ∧ (w32 x1) < ((24 : Nat) : Int) then bd (up s 9 (Int.toNat (w32 x1)) x2) fun s1 => (if (w32 x3) = 0 then some (s1, 0) else bV (d_x2_miss N  s1 ) fun s2 => some (s2, 0)) else none
set_option maxHeartbeats 4000000 in
set_option maxRecDepth 100000 in
theorem c_x2_readNums_74 {sc : xS} {d : Nat} {R : Rs} (N : Nat)  (hd : 3 ≤ d)   (s : St) (x1 : Int) (x2 : Int) (x3 : Int) : d_x2_readNums_74 N  s x1 x2 x3 = some R → vT sc d 26 74 [(0, .ref 1), (1, vi x1), (2, vi x2), (3, vi x3)] [] s (fun r => r = qV R) := by
  obtain ⟨d, rfl⟩ : ∃ d', d = d' + 1 := ⟨d - 1, by omega⟩
  unfold d_x2_readNums_74
  refine vLan 75 i26_74 rfl rfl ?_
  refine vGetC 78 i26_75 f26_14 sh_1 rfl rfl ?_
  refine vGetC 81 i26_78 f26_126 sh_2 rfl rfl ?_
  refine vLin 82 i26_81 rfl rfl ?_
  refine vLin 83 i26_82 rfl rfl ?_
  refine vIas 84 rfl i26_83 sh_9 rfl (fun s1 => ?_)
  refine vLin 85 i26_84 rfl rfl ?_
  refine vZeq 92 88 rfl i26_85 rfl rfl ?_ ?_
  · exact vR0 i26_92 m26
  · refine vLan 89 i26_88 rfl rfl ?_
    refine vCallV 92 [.ref 1] [] [(0, .ref 1)] i26_89 rfl (xlk0 l26_58) (Or.inl rfl) m22 rfl rfl (Nat.le_of_ble_eq_true rfl) (Nat.le_of_ble_eq_true rfl) (Nat.le_of_ble_eq_true rfl) (xh0 sh_1 (by decide)) rfl rfl (fun R1 => c_x2_miss N   (by omega) s1 ) (fun s2 => ?_)
    exact vR0 i26_92 m26
def d_x2_readNums_4 (N : Nat)  (k4 : St → Int → Int → Int → Option Rs) (s : St) (x1 : Int) (x2 : Int) (x3 : Int) : Option Rs :=
  (if (w32 x3) = 0 then d_x2_readNums_74 N  s x1 x2 x3 else (if (w32 x2) < 8 then (if (w32 (s 1 7)) = (-1) then bI (d_x2_readNum N  s ) fun s4 v5 => if 0 ≤ (w32 ((x1 * 8) + x2)) ∧ (w32 ((x1 * 8) + x2)) < ((192 : Nat) : Int) then bd (up s4 10 (Int.toNat (w32 ((x1 * 8) + x2))) (w32 v5)) fun s6 => bd (x2 + 1) fun v7 => bI (d_x2_isSign N  s6 44) fun s8 v9 => (if (w32 v9) = 0 then k4 s8 x1 v7 v9 else (if (w32 v7) < 8 then bd (up s8 1 6 ((s8 1 6) + 1)) fun s10 => k4 s10 x1 v7 v9 else k4 s8 x1 v7 v9)) else none else d_x2_readNums_74 N  s x1 x2 x3) else d_x2_readNums_74 N  s x1 x2 x3))
def d_x2_readNums_4L (N : Nat)  : Nat → St → Int → Int → Int → Option Rs
  | 0 => fun _ _ _ _ => none
  | n + 1 => d_x2_readNums_4 N  (d_x2_readNums_4L N  n)
set_option maxHeartbeats 4000000 in
set_option maxRecDepth 100000 in
theorem c_x2_readNums_4 {sc : xS} {d : Nat} {R : Rs} (N : Nat)  (hd : 3 ≤ d)   (k4 : St → Int → Int → Int → Option Rs) (hk4 : ∀ (s : St) (x1 : Int) (x2 : Int) (x3 : Int), k4 s x1 x2 x3 = some R → vT sc d 26 4 [(0, .ref 1), (1, vi x1), (2, vi x2), (3, vi x3)] [] s (fun r => r = qV R)) (s : St) (x1 : Int) (x2 : Int) (x3 : Int) : d_x2_readNums_4 N  k4 s x1 x2 x3 = some R → vT sc d 26 4 [(0, .ref 1), (1, vi x1), (2, vi x2), (3, vi x3)] [] s (fun r => r = qV R) := by
  obtain ⟨d, rfl⟩ : ∃ d', d = d' + 1 := ⟨d - 1, by omega⟩
  unfold d_x2_readNums_4
  refine vLin 5 i26_4 rfl rfl ?_
  refine vZeq 74 8 rfl i26_5 rfl rfl ?_ ?_
  · exact fun hD => c_x2_readNums_74 N  hd  s x1 x2 x3 hD
  · refine vLin 9 i26_8 rfl rfl ?_
    refine vKb 11 i26_9 (by decide) rfl ?_
    refine vCge 74 14 rfl (show w32 8 = 8 from rfl) i26_11 rfl rfl ?_ ?_
    · exact fun hD => c_x2_readNums_74 N  hd  s x1 x2 x3 hD
    · refine vLan 15 i26_14 rfl rfl ?_
      refine vGet 18 i26_15 f26_40 sh_1 rfl rfl ?_
      refine vK 19 i26_18 rfl ?_
      refine vCne 74 22 rfl (show w32 (-1) = (-1) from rfl) i26_19 rfl rfl ?_ ?_
      · exact fun hD => c_x2_readNums_74 N  hd  s x1 x2 x3 hD
      · refine vLan 23 i26_22 rfl rfl ?_
        refine vGetC 26 i26_23 f26_14 sh_1 rfl rfl ?_
        refine vGetC 29 i26_26 f26_118 sh_2 rfl rfl ?_
        refine vLin 30 i26_29 rfl rfl ?_
        refine vKb 32 i26_30 (by decide) rfl ?_
        refine vImul 33 i26_32 rfl ?_
        refine vLin 34 i26_33 rfl rfl ?_
        refine vIadd 35 i26_34 rfl ?_
        refine vLan 36 i26_35 rfl rfl ?_
        refine vCallI 39 [.ref 1] [vi ((x1 * 8) + x2), .ref 10] [(0, .ref 1)] i26_36 rfl (xlk0 l26_106) (Or.inl rfl) m24 rfl rfl (Nat.le_of_ble_eq_true rfl) (Nat.le_of_ble_eq_true rfl) (Nat.le_of_ble_eq_true rfl) (xh0 sh_1 (by decide)) rfl rfl (fun R1 => c_x2_readNum N   (by omega) s ) (fun s4 v5 => ?_)
        refine vI2l 40 i26_39 rfl ?_
        refine vLas 41 rfl i26_40 sh_10 rfl (fun s6 => ?_)
        refine vInc 44 (fun v7 => [(2, vi v7), (0, .ref 1), (1, vi x1), (3, vi x3)]) i26_41 m26 (by decide) rfl (fun _ => rfl) rfl (fun v7 => ?_)
        refine vLan 45 i26_44 rfl rfl ?_
        refine vKb 47 i26_45 (by decide) rfl ?_
        refine vCallI 50 [.ref 1, vi 44] [] [(0, .ref 1), (1, vi 44)] i26_47 rfl (xlk0 l26_122) (Or.inl rfl) m18 rfl rfl (Nat.le_of_ble_eq_true rfl) (Nat.le_of_ble_eq_true rfl) (Nat.le_of_ble_eq_true rfl) (xh0 sh_1 (by decide)) rfl rfl (fun R1 => c_x2_isSign N   (by omega) s6 44) (fun s8 v9 => ?_)
        refine vSin0 51 [(3, vi v9), (2, vi v7), (0, .ref 1), (1, vi x1)] i26_50 m26 (by decide) rfl rfl ?_
        refine vLin 52 i26_51 rfl rfl ?_
        refine vZeq 4 55 rfl i26_52 rfl rfl ?_ ?_
        · exact fun hD => tLc [(0, .ref 1), (1, vi x1), (2, vi v7), (3, vi v9)] (xNdk [0, 1, 2, 3] rfl (by decide)) (xNdk [3, 2, 0, 1] rfl (by decide)) ⟨rfl, rfl, rfl, rfl, trivial⟩ (hk4 s8 x1 v7 v9 hD)
        · refine vLin 56 i26_55 rfl rfl ?_
          refine vKb 58 i26_56 (by decide) rfl ?_
          refine vCge 4 61 rfl (show w32 8 = 8 from rfl) i26_58 rfl rfl ?_ ?_
          · exact fun hD => tLc [(0, .ref 1), (1, vi x1), (2, vi v7), (3, vi v9)] (xNdk [0, 1, 2, 3] rfl (by decide)) (xNdk [3, 2, 0, 1] rfl (by decide)) ⟨rfl, rfl, rfl, rfl, trivial⟩ (hk4 s8 x1 v7 v9 hD)
          · refine vLan 62 i26_61 rfl rfl ?_
            refine vD 63 i26_62 rfl rfl rfl ?_
            refine vGet 66 i26_63 f26_37 sh_1 rfl rfl ?_
            refine vK 67 i26_66 rfl ?_
            refine vIadd 68 i26_67 rfl ?_
            refine vPut 71 i26_68 p26_37 sh_1 rfl rfl (fun s10 => ?_)
            refine vGo 4 i26_71 rfl ?_
            exact fun hD => tLc [(0, .ref 1), (1, vi x1), (2, vi v7), (3, vi v9)] (xNdk [0, 1, 2, 3] rfl (by decide)) (xNdk [3, 2, 0, 1] rfl (by decide)) ⟨rfl, rfl, rfl, rfl, trivial⟩ (hk4 s10 x1 v7 v9 hD)
theorem c_x2_readNums_4L {sc : xS} {d : Nat} {R : Rs} (N : Nat)  (hd : 3 ≤ d)   : ∀ (n : Nat) (s : St) (x1 : Int) (x2 : Int) (x3 : Int), d_x2_readNums_4L N  n s x1 x2 x3 = some R → vT sc d 26 4 [(0, .ref 1), (1, vi x1), (2, vi x2), (3, vi x3)] [] s (fun r => r = qV R) := by
  intro n
  induction n with
  | zero => intro s x1 x2 x3 hD; cases hD
  | succ n ih => intro s x1 x2 x3 hD; exact c_x2_readNums_4 N  hd  _ ih s x1 x2 x3 hD
def d_x2_readNums (N : Nat)  (s : St) (a0 : Int) : Option Rs :=
  d_x2_readNums_4L N  N s a0 0 1
set_option maxHeartbeats 4000000 in
set_option maxRecDepth 100000 in
theorem c_x2_readNums {sc : xS} {d : Nat} {R : Rs} (N : Nat)  (hd : 3 ≤ d)   (s : St) (a0 : Int) : d_x2_readNums N  s a0 = some R → vT sc d 26 0 [(0, .ref 1), (1, vi a0)] [] s (fun r => r = qV R) := by
  obtain ⟨d, rfl⟩ : ∃ d', d = d' + 1 := ⟨d - 1, by omega⟩
  unfold d_x2_readNums
  refine vK 1 i26_0 rfl ?_
  refine vSin0 2 [(2, vi 0), (0, .ref 1), (1, vi a0)] i26_1 m26 (by decide) rfl rfl ?_
  refine vK 3 i26_2 rfl ?_
  refine vSin0 4 [(3, vi 1), (2, vi 0), (0, .ref 1), (1, vi a0)] i26_3 m26 (by decide) rfl rfl ?_
  exact fun hD => tLc [(0, .ref 1), (1, vi a0), (2, vi 0), (3, vi 1)] (xNdk [0, 1, 2, 3] rfl (by decide)) (xNdk [3, 2, 0, 1] rfl (by decide)) ⟨rfl, rfl, rfl, rfl, trivial⟩ (c_x2_readNums_4L N  hd  N s a0 0 1 hD)
theorem f28_34 : xFld xg 28 34 = some (1, 5) := by decide +kernel
theorem f28_37 : xFld xg 28 37 = some (1, 6) := by decide +kernel
theorem f28_31 : xFld xg 28 31 = some (1, 4) := by decide +kernel
theorem i28_32 : xIns xg 28 32 = some (.aload_n 0) := by decide +kernel
theorem i28_33 : xIns xg 28 33 = some (.invokevirtual 58) := by decide +kernel
theorem i28_36 : xIns xg 28 36 = some (.iconst 0) := by decide +kernel
theorem i28_37 : xIns xg 28 37 = some (.ireturn) := by decide +kernel
theorem m28 : (xMet xg 28).2.2 = (3, (some .int)) := by decide +kernel
theorem i28_0 : xIns xg 28 0 = some (.aload_n 0) := by decide +kernel
theorem i28_1 : xIns xg 28 1 = some (.getfield 34) := by decide +kernel
theorem i28_4 : xIns xg 28 4 = some (.aload_n 0) := by decide +kernel
theorem i28_5 : xIns xg 28 5 = some (.getfield 37) := by decide +kernel
theorem i28_8 : xIns xg 28 8 = some (.iaload) := by decide +kernel
theorem i28_9 : xIns xg 28 9 = some (.istore_n 2) := by decide +kernel
theorem i28_10 : xIns xg 28 10 = some (.aload_n 0) := by decide +kernel
theorem i28_11 : xIns xg 28 11 = some (.getfield 31) := by decide +kernel
theorem i28_14 : xIns xg 28 14 = some (.aload_n 0) := by decide +kernel
theorem i28_15 : xIns xg 28 15 = some (.getfield 37) := by decide +kernel
theorem i28_18 : xIns xg 28 18 = some (.iaload) := by decide +kernel
theorem i28_19 : xIns xg 28 19 = some (.iconst 3) := by decide +kernel
theorem i28_20 : xIns xg 28 20 = some (.if_icmp .ne 12) := by decide +kernel
theorem i28_23 : xIns xg 28 23 = some (.aload_n 1) := by decide +kernel
theorem i28_24 : xIns xg 28 24 = some (.iload_n 2) := by decide +kernel
theorem i28_25 : xIns xg 28 25 = some (.i2c) := by decide +kernel
theorem i28_26 : xIns xg 28 26 = some (.invokevirtual 129) := by decide +kernel
theorem i28_29 : xIns xg 28 29 = some (.ifCond .ge 9) := by decide +kernel
theorem i28_38 : xIns xg 28 38 = some (.aload_n 0) := by decide +kernel
theorem i28_39 : xIns xg 28 39 = some (.dup) := by decide +kernel
theorem i28_40 : xIns xg 28 40 = some (.getfield 37) := by decide +kernel
theorem i28_43 : xIns xg 28 43 = some (.iconst 1) := by decide +kernel
theorem i28_44 : xIns xg 28 44 = some (.iadd) := by decide +kernel
theorem i28_45 : xIns xg 28 45 = some (.putfield 37) := by decide +kernel
theorem p28_37 : xPut xg 28 37 = some (1, 6, .int) := by decide +kernel
theorem i28_48 : xIns xg 28 48 = some (.iload_n 2) := by decide +kernel
theorem i28_49 : xIns xg 28 49 = some (.ireturn) := by decide +kernel
def d_x2_readSign_32 (N : Nat)  (s : St)  : Option Rs :=
  bV (d_x2_miss N  s ) fun s1 => some (s1, 0)
set_option maxHeartbeats 4000000 in
set_option maxRecDepth 100000 in
theorem c_x2_readSign_32 {sc : xS} {d : Nat} {R : Rs} (N : Nat)  (hd : 4 ≤ d)   (s : St)  : d_x2_readSign_32 N  s  = some R → vT sc d 28 32 [(0, .ref 1)] [] s (fun r => r = qI R) := by
  obtain ⟨d, rfl⟩ : ∃ d', d = d' + 1 := ⟨d - 1, by omega⟩
  unfold d_x2_readSign_32
  refine vLan 33 i28_32 rfl rfl ?_
  refine vCallV 36 [.ref 1] [] [(0, .ref 1)] i28_33 rfl (xlk0 l28_58) (Or.inl rfl) m22 rfl rfl (Nat.le_of_ble_eq_true rfl) (Nat.le_of_ble_eq_true rfl) (Nat.le_of_ble_eq_true rfl) (xh0 sh_1 (by decide)) rfl rfl (fun R1 => c_x2_miss N   (by omega) s ) (fun s1 => ?_)
  refine vK 37 i28_36 rfl ?_
  exact vRi i28_37 m28 rfl
def d_x2_readSign (N : Nat)  (s : St) (e1 : Nat) : Option Rs :=
  if 0 ≤ (w32 (s 1 6)) ∧ (w32 (s 1 6)) < ((121 : Nat) : Int) then bd (s 14 (Int.toNat (w32 (s 1 6)))) fun v3 => if 0 ≤ (w32 (s 1 6)) ∧ (w32 (s 1 6)) < ((121 : Nat) : Int) then (if (w32 (s 13 (Int.toNat (w32 (s 1 6))))) = 3 then if e1 = 1000 then none else if e1 % 2 = 1 ∧ e1 / 2 < 25 then bI (d_j0_indexOf_0f7a4 N  s e1 (c16 v3)) fun s4 v5 => (if (w32 v5) < 0 then d_x2_readSign_32 N  s4  else bd (up s4 1 6 ((s4 1 6) + 1)) fun s6 => some (s6, v3)) else none else d_x2_readSign_32 N  s ) else none else none
set_option maxHeartbeats 4000000 in
set_option maxRecDepth 100000 in
theorem c_x2_readSign {sc : xS} {d : Nat} {R : Rs} (N : Nat)  (hd : 4 ≤ d)   (s : St) (e1 : Nat) : d_x2_readSign N  s e1 = some R → vT sc d 28 0 [(0, .ref 1), (1, .retAddr e1)] [] s (fun r => r = qI R) := by
  obtain ⟨d, rfl⟩ : ∃ d', d = d' + 1 := ⟨d - 1, by omega⟩
  unfold d_x2_readSign
  refine vLan 1 i28_0 rfl rfl ?_
  refine vGetC 4 i28_1 f28_34 sh_1 rfl rfl ?_
  refine vLan 5 i28_4 rfl rfl ?_
  refine vGet 8 i28_5 f28_37 sh_1 rfl rfl ?_
  refine vIal 9 rfl i28_8 sh_14 rfl ?_
  refine vSin 10 (fun v3 => [(2, vi v3), (0, .ref 1), (1, .retAddr e1)]) i28_9 m28 (by decide) (fun v3 => (rfl : xst1 [(0, .ref 1), (1, .retAddr e1)] 2 (vi v3) = [(2, vi v3), (0, .ref 1), (1, .retAddr e1)])) rfl (fun v3 => ?_)
  refine vLan 11 i28_10 rfl rfl ?_
  refine vGetC 14 i28_11 f28_31 sh_1 rfl rfl ?_
  refine vLan 15 i28_14 rfl rfl ?_
  refine vGet 18 i28_15 f28_37 sh_1 rfl rfl ?_
  refine vIal 19 rfl i28_18 sh_13 rfl ?_
  refine vK 20 i28_19 rfl ?_
  refine vCne 32 23 rfl (show w32 3 = 3 from rfl) i28_20 rfl rfl ?_ ?_
  · exact fun hD => tLc [(0, .ref 1)] (xNdk [0] rfl (by decide)) (xNdk [2, 0, 1] rfl (by decide)) ⟨rfl, trivial⟩ (c_x2_readSign_32 N  hd  s  hD)
  · refine vLsn 24 i28_23 rfl rfl ?_
    refine vLin 25 i28_24 rfl rfl ?_
    refine vI2c 26 i28_25 rfl ?_
    refine vX98 (e := e1) (fun hx98 => ?_)
    refine vCallI 29 [.retAddr e1, vi (c16 v3)] [] [(0, .retAddr e1), (1, vi (c16 v3))] i28_26 rfl (xlk0 l28_129) (Or.inl rfl) m201 rfl rfl (Nat.le_of_ble_eq_true rfl) (Nat.le_of_ble_eq_true rfl) (Nat.le_of_ble_eq_true rfl) (xh98 hx98) rfl rfl (fun R1 => c_j0_indexOf_0f7a4 N   (by omega) s e1 (c16 v3)) (fun s4 v5 => ?_)
    refine vZge 38 32 rfl i28_29 rfl rfl ?_ ?_
    · refine vLan 39 i28_38 rfl rfl ?_
      refine vD 40 i28_39 rfl rfl rfl ?_
      refine vGet 43 i28_40 f28_37 sh_1 rfl rfl ?_
      refine vK 44 i28_43 rfl ?_
      refine vIadd 45 i28_44 rfl ?_
      refine vPut 48 i28_45 p28_37 sh_1 rfl rfl (fun s6 => ?_)
      refine vLin 49 i28_48 rfl rfl ?_
      exact vRi i28_49 m28 rfl
    · exact fun hD => tLc [(0, .ref 1)] (xNdk [0] rfl (by decide)) (xNdk [2, 0, 1] rfl (by decide)) ⟨rfl, trivial⟩ (c_x2_readSign_32 N  hd  s4  hD)
theorem f23_14 : xFld xg 23 14 = some (1, 0) := by decide +kernel
theorem f23_74 : xFld xg 23 74 = some (4, 3) := by decide +kernel
theorem f23_109 : xFld xg 23 109 = some (4, 4) := by decide +kernel
theorem f23_95 : xFld xg 23 95 = some (4, 2) := by decide +kernel
theorem i23_0 : xIns xg 23 0 = some (.iload_n 2) := by decide +kernel
theorem i23_1 : xIns xg 23 1 = some (.tableswitch 194 99 116 #[175, 155, 194, 194, 194, 194, 194, 194, 194, 194, 194, 123, 87, 194, 194, 194, 139, 105]) := by decide +kernel
theorem i23_176 : xIns xg 23 176 = some (.aload_n 0) := by decide +kernel
theorem i23_177 : xIns xg 23 177 = some (.getfield 14) := by decide +kernel
theorem i23_180 : xIns xg 23 180 = some (.getfield 74) := by decide +kernel
theorem i23_183 : xIns xg 23 183 = some (.iload_n 1) := by decide +kernel
theorem i23_184 : xIns xg 23 184 = some (.aload_n 0) := by decide +kernel
theorem i23_185 : xIns xg 23 185 = some (.iconst 1) := by decide +kernel
theorem i23_186 : xIns xg 23 186 = some (.bipush 9) := by decide +kernel
theorem i23_188 : xIns xg 23 188 = some (.invokevirtual 112) := by decide +kernel
theorem i23_191 : xIns xg 23 191 = some (.iastore) := by decide +kernel
theorem i23_192 : xIns xg 23 192 = some (.goto 8) := by decide +kernel
theorem i23_200 : xIns xg 23 200 = some (.return_) := by decide +kernel
theorem m23 : (xMet xg 23).2.2 = (3, none) := by decide +kernel
theorem i23_156 : xIns xg 23 156 = some (.aload_n 0) := by decide +kernel
theorem i23_157 : xIns xg 23 157 = some (.getfield 14) := by decide +kernel
theorem i23_160 : xIns xg 23 160 = some (.getfield 74) := by decide +kernel
theorem i23_163 : xIns xg 23 163 = some (.iload_n 1) := by decide +kernel
theorem i23_164 : xIns xg 23 164 = some (.aload_n 0) := by decide +kernel
theorem i23_165 : xIns xg 23 165 = some (.iconst 0) := by decide +kernel
theorem i23_166 : xIns xg 23 166 = some (.sipush 9999) := by decide +kernel
theorem i23_169 : xIns xg 23 169 = some (.invokevirtual 112) := by decide +kernel
theorem i23_172 : xIns xg 23 172 = some (.iastore) := by decide +kernel
theorem i23_173 : xIns xg 23 173 = some (.goto 27) := by decide +kernel
theorem i23_124 : xIns xg 23 124 = some (.aload_n 0) := by decide +kernel
theorem i23_125 : xIns xg 23 125 = some (.getfield 14) := by decide +kernel
theorem i23_128 : xIns xg 23 128 = some (.getfield 74) := by decide +kernel
theorem i23_131 : xIns xg 23 131 = some (.iload_n 1) := by decide +kernel
theorem i23_132 : xIns xg 23 132 = some (.aload_n 0) := by decide +kernel
theorem i23_133 : xIns xg 23 133 = some (.invokevirtual 106) := by decide +kernel
theorem i23_136 : xIns xg 23 136 = some (.iastore) := by decide +kernel
theorem i23_137 : xIns xg 23 137 = some (.goto 63) := by decide +kernel
theorem i23_88 : xIns xg 23 88 = some (.aload_n 0) := by decide +kernel
theorem i23_89 : xIns xg 23 89 = some (.getfield 14) := by decide +kernel
theorem i23_92 : xIns xg 23 92 = some (.getfield 95) := by decide +kernel
theorem i23_95 : xIns xg 23 95 = some (.iload_n 1) := by decide +kernel
theorem i23_96 : xIns xg 23 96 = some (.aload_n 0) := by decide +kernel
theorem i23_97 : xIns xg 23 97 = some (.ldc 98) := by decide +kernel
theorem s23_98 : xStr xg 23 98 = some 23 := by decide +kernel
theorem sn23_98 : xCon xg 23 98 = none := by decide +kernel
theorem i23_99 : xIns xg 23 99 = some (.invokevirtual 100) := by decide +kernel
theorem i23_102 : xIns xg 23 102 = some (.iastore) := by decide +kernel
theorem i23_103 : xIns xg 23 103 = some (.goto 97) := by decide +kernel
theorem i23_140 : xIns xg 23 140 = some (.aload_n 0) := by decide +kernel
theorem i23_141 : xIns xg 23 141 = some (.getfield 14) := by decide +kernel
theorem i23_144 : xIns xg 23 144 = some (.getfield 109) := by decide +kernel
theorem i23_147 : xIns xg 23 147 = some (.iload_n 1) := by decide +kernel
theorem i23_148 : xIns xg 23 148 = some (.aload_n 0) := by decide +kernel
theorem i23_149 : xIns xg 23 149 = some (.invokevirtual 106) := by decide +kernel
theorem i23_152 : xIns xg 23 152 = some (.iastore) := by decide +kernel
theorem i23_153 : xIns xg 23 153 = some (.goto 47) := by decide +kernel
theorem i23_106 : xIns xg 23 106 = some (.aload_n 0) := by decide +kernel
theorem i23_107 : xIns xg 23 107 = some (.getfield 14) := by decide +kernel
theorem i23_110 : xIns xg 23 110 = some (.getfield 95) := by decide +kernel
theorem i23_113 : xIns xg 23 113 = some (.iload_n 1) := by decide +kernel
theorem i23_114 : xIns xg 23 114 = some (.aload_n 0) := by decide +kernel
theorem i23_115 : xIns xg 23 115 = some (.ldc 104) := by decide +kernel
theorem s23_104 : xStr xg 23 104 = some 24 := by decide +kernel
theorem sn23_104 : xCon xg 23 104 = none := by decide +kernel
theorem i23_117 : xIns xg 23 117 = some (.invokevirtual 100) := by decide +kernel
theorem i23_120 : xIns xg 23 120 = some (.iastore) := by decide +kernel
theorem i23_121 : xIns xg 23 121 = some (.goto 79) := by decide +kernel
theorem i23_195 : xIns xg 23 195 = some (.aload_n 0) := by decide +kernel
theorem i23_196 : xIns xg 23 196 = some (.iload_n 1) := by decide +kernel
theorem i23_197 : xIns xg 23 197 = some (.invokevirtual 115) := by decide +kernel
def d_x2_readField (N : Nat)  (s : St) (a0 : Int) (a1 : Int) : Option Rs :=
  (if (w32 a1) = 99 then bI (d_x2_readNumber N  s 1 9) fun s1 v2 => if 0 ≤ (w32 a0) ∧ (w32 a0) < ((24 : Nat) : Int) then bd (up s1 6 (Int.toNat (w32 a0)) v2) fun s3 => some (s3, 0) else none else (if (w32 a1) = 100 then bI (d_x2_readNumber N  s 0 9999) fun s4 v5 => if 0 ≤ (w32 a0) ∧ (w32 a0) < ((24 : Nat) : Int) then bd (up s4 6 (Int.toNat (w32 a0)) v5) fun s6 => some (s6, 0) else none else (if (w32 a1) = 110 then bI (d_x2_readNum N  s ) fun s7 v8 => if 0 ≤ (w32 a0) ∧ (w32 a0) < ((24 : Nat) : Int) then bd (up s7 6 (Int.toNat (w32 a0)) v8) fun s9 => some (s9, 0) else none else (if (w32 a1) = 111 then bI (d_x2_readSign N  s (2 * 23 + 1)) fun s10 v11 => if 0 ≤ (w32 a0) ∧ (w32 a0) < ((24 : Nat) : Int) then bd (up s10 5 (Int.toNat (w32 a0)) v11) fun s12 => some (s12, 0) else none else (if (w32 a1) = 115 then bI (d_x2_readNum N  s ) fun s13 v14 => if 0 ≤ (w32 a0) ∧ (w32 a0) < ((24 : Nat) : Int) then bd (up s13 7 (Int.toNat (w32 a0)) v14) fun s15 => some (s15, 0) else none else (if (w32 a1) = 116 then bI (d_x2_readSign N  s (2 * 24 + 1)) fun s16 v17 => if 0 ≤ (w32 a0) ∧ (w32 a0) < ((24 : Nat) : Int) then bd (up s16 5 (Int.toNat (w32 a0)) v17) fun s18 => some (s18, 0) else none else (if (w32 a1) = 101 then bV (d_x2_readNums N  s a0) fun s19 => some (s19, 0) else (if (w32 a1) = 102 then bV (d_x2_readNums N  s a0) fun s19 => some (s19, 0) else (if (w32 a1) = 103 then bV (d_x2_readNums N  s a0) fun s19 => some (s19, 0) else (if (w32 a1) = 104 then bV (d_x2_readNums N  s a0) fun s19 => some (s19, 0) else (if (w32 a1) = 105 then bV (d_x2_readNums N  s a0) fun s19 => some (s19, 0) else (if (w32 a1) = 106 then bV (d_x2_readNums N  s a0) fun s19 => some (s19, 0) else (if (w32 a1) = 107 then bV (d_x2_readNums N  s a0) fun s19 => some (s19, 0) else (if (w32 a1) = 108 then bV (d_x2_readNums N  s a0) fun s19 => some (s19, 0) else (if (w32 a1) = 109 then bV (d_x2_readNums N  s a0) fun s19 => some (s19, 0) else (if (w32 a1) = 112 then bV (d_x2_readNums N  s a0) fun s19 => some (s19, 0) else (if (w32 a1) = 113 then bV (d_x2_readNums N  s a0) fun s19 => some (s19, 0) else (if (w32 a1) = 114 then bV (d_x2_readNums N  s a0) fun s19 => some (s19, 0) else bV (d_x2_readNums N  s a0) fun s19 => some (s19, 0)))))))))))))))))))
set_option maxHeartbeats 4000000 in
set_option maxRecDepth 100000 in
theorem c_x2_readField {sc : xS} {d : Nat} {R : Rs} (N : Nat)  (hd : 5 ≤ d)   (s : St) (a0 : Int) (a1 : Int) : d_x2_readField N  s a0 a1 = some R → vT sc d 23 0 [(0, .ref 1), (1, vi a0), (2, vi a1)] [] s (fun r => r = qV R) := by
  obtain ⟨d, rfl⟩ : ∃ d', d = d' + 1 := ⟨d - 1, by omega⟩
  unfold d_x2_readField
  refine vLin 1 i23_0 rfl rfl ?_
  refine vSw 176 (v := 99) rfl i23_1 rfl rfl ?_ (fun h99 => ?_)
  · refine vLan 177 i23_176 rfl rfl ?_
    refine vGetC 180 i23_177 f23_14 sh_1 rfl rfl ?_
    refine vGetC 183 i23_180 f23_74 sh_2 rfl rfl ?_
    refine vLin 184 i23_183 rfl rfl ?_
    refine vLan 185 i23_184 rfl rfl ?_
    refine vK 186 i23_185 rfl ?_
    refine vKb 188 i23_186 (by decide) rfl ?_
    refine vCallI 191 [.ref 1, vi 1, vi 9] [vi a0, .ref 6] [(0, .ref 1), (1, vi 1), (2, vi 9)] i23_188 rfl (xlk0 l23_112) (Or.inl rfl) m25 rfl rfl (Nat.le_of_ble_eq_true rfl) (Nat.le_of_ble_eq_true rfl) (Nat.le_of_ble_eq_true rfl) (xh0 sh_1 (by decide)) rfl rfl (fun R1 => c_x2_readNumber N   (by omega) s 1 9) (fun s1 v2 => ?_)
    refine vIas 192 rfl i23_191 sh_6 rfl (fun s3 => ?_)
    refine vGo 200 i23_192 rfl ?_
    exact vR0 i23_200 m23
  refine vSw 156 (v := 100) rfl i23_1 rfl rfl ?_ (fun h100 => ?_)
  · refine vLan 157 i23_156 rfl rfl ?_
    refine vGetC 160 i23_157 f23_14 sh_1 rfl rfl ?_
    refine vGetC 163 i23_160 f23_74 sh_2 rfl rfl ?_
    refine vLin 164 i23_163 rfl rfl ?_
    refine vLan 165 i23_164 rfl rfl ?_
    refine vK 166 i23_165 rfl ?_
    refine vKs 169 i23_166 (by decide) rfl ?_
    refine vCallI 172 [.ref 1, vi 0, vi 9999] [vi a0, .ref 6] [(0, .ref 1), (1, vi 0), (2, vi 9999)] i23_169 rfl (xlk0 l23_112) (Or.inl rfl) m25 rfl rfl (Nat.le_of_ble_eq_true rfl) (Nat.le_of_ble_eq_true rfl) (Nat.le_of_ble_eq_true rfl) (xh0 sh_1 (by decide)) rfl rfl (fun R1 => c_x2_readNumber N   (by omega) s 0 9999) (fun s4 v5 => ?_)
    refine vIas 173 rfl i23_172 sh_6 rfl (fun s6 => ?_)
    refine vGo 200 i23_173 rfl ?_
    exact vR0 i23_200 m23
  refine vSw 124 (v := 110) rfl i23_1 rfl rfl ?_ (fun h110 => ?_)
  · refine vLan 125 i23_124 rfl rfl ?_
    refine vGetC 128 i23_125 f23_14 sh_1 rfl rfl ?_
    refine vGetC 131 i23_128 f23_74 sh_2 rfl rfl ?_
    refine vLin 132 i23_131 rfl rfl ?_
    refine vLan 133 i23_132 rfl rfl ?_
    refine vCallI 136 [.ref 1] [vi a0, .ref 6] [(0, .ref 1)] i23_133 rfl (xlk0 l23_106) (Or.inl rfl) m24 rfl rfl (Nat.le_of_ble_eq_true rfl) (Nat.le_of_ble_eq_true rfl) (Nat.le_of_ble_eq_true rfl) (xh0 sh_1 (by decide)) rfl rfl (fun R1 => c_x2_readNum N   (by omega) s ) (fun s7 v8 => ?_)
    refine vIas 137 rfl i23_136 sh_6 rfl (fun s9 => ?_)
    refine vGo 200 i23_137 rfl ?_
    exact vR0 i23_200 m23
  refine vSw 88 (v := 111) rfl i23_1 rfl rfl ?_ (fun h111 => ?_)
  · refine vLan 89 i23_88 rfl rfl ?_
    refine vGetC 92 i23_89 f23_14 sh_1 rfl rfl ?_
    refine vGetC 95 i23_92 f23_95 sh_2 rfl rfl ?_
    refine vLin 96 i23_95 rfl rfl ?_
    refine vLan 97 i23_96 rfl rfl ?_
    refine vLdS 99 i23_97 sn23_98 s23_98 rfl ?_
    refine vCallI 102 [.ref 1, .retAddr (2 * 23 + 1)] [vi a0, .ref 5] [(0, .ref 1), (1, .retAddr (2 * 23 + 1))] i23_99 rfl (xlk0 l23_100) (Or.inl rfl) m28 rfl rfl (Nat.le_of_ble_eq_true rfl) (Nat.le_of_ble_eq_true rfl) (Nat.le_of_ble_eq_true rfl) (xh0 sh_1 (by decide)) rfl rfl (fun R1 => c_x2_readSign N   (by omega) s (2 * 23 + 1)) (fun s10 v11 => ?_)
    refine vIas 103 rfl i23_102 sh_5 rfl (fun s12 => ?_)
    refine vGo 200 i23_103 rfl ?_
    exact vR0 i23_200 m23
  refine vSw 140 (v := 115) rfl i23_1 rfl rfl ?_ (fun h115 => ?_)
  · refine vLan 141 i23_140 rfl rfl ?_
    refine vGetC 144 i23_141 f23_14 sh_1 rfl rfl ?_
    refine vGetC 147 i23_144 f23_109 sh_2 rfl rfl ?_
    refine vLin 148 i23_147 rfl rfl ?_
    refine vLan 149 i23_148 rfl rfl ?_
    refine vCallI 152 [.ref 1] [vi a0, .ref 7] [(0, .ref 1)] i23_149 rfl (xlk0 l23_106) (Or.inl rfl) m24 rfl rfl (Nat.le_of_ble_eq_true rfl) (Nat.le_of_ble_eq_true rfl) (Nat.le_of_ble_eq_true rfl) (xh0 sh_1 (by decide)) rfl rfl (fun R1 => c_x2_readNum N   (by omega) s ) (fun s13 v14 => ?_)
    refine vIas 153 rfl i23_152 sh_7 rfl (fun s15 => ?_)
    refine vGo 200 i23_153 rfl ?_
    exact vR0 i23_200 m23
  refine vSw 106 (v := 116) rfl i23_1 rfl rfl ?_ (fun h116 => ?_)
  · refine vLan 107 i23_106 rfl rfl ?_
    refine vGetC 110 i23_107 f23_14 sh_1 rfl rfl ?_
    refine vGetC 113 i23_110 f23_95 sh_2 rfl rfl ?_
    refine vLin 114 i23_113 rfl rfl ?_
    refine vLan 115 i23_114 rfl rfl ?_
    refine vLdS 117 i23_115 sn23_104 s23_104 rfl ?_
    refine vCallI 120 [.ref 1, .retAddr (2 * 24 + 1)] [vi a0, .ref 5] [(0, .ref 1), (1, .retAddr (2 * 24 + 1))] i23_117 rfl (xlk0 l23_100) (Or.inl rfl) m28 rfl rfl (Nat.le_of_ble_eq_true rfl) (Nat.le_of_ble_eq_true rfl) (Nat.le_of_ble_eq_true rfl) (xh0 sh_1 (by decide)) rfl rfl (fun R1 => c_x2_readSign N   (by omega) s (2 * 24 + 1)) (fun s16 v17 => ?_)
    refine vIas 121 rfl i23_120 sh_5 rfl (fun s18 => ?_)
    refine vGo 200 i23_121 rfl ?_
    exact vR0 i23_200 m23
  refine vSw 195 (v := 101) rfl i23_1 rfl rfl ?_ (fun h101 => ?_)
  · refine vLan 196 i23_195 rfl rfl ?_
    refine vLin 197 i23_196 rfl rfl ?_
    refine vCallV 200 [.ref 1, vi a0] [] [(0, .ref 1), (1, vi a0)] i23_197 rfl (xlk0 l23_115) (Or.inl rfl) m26 rfl rfl (Nat.le_of_ble_eq_true rfl) (Nat.le_of_ble_eq_true rfl) (Nat.le_of_ble_eq_true rfl) (xh0 sh_1 (by decide)) rfl rfl (fun R1 => c_x2_readNums N   (by omega) s a0) (fun s19 => ?_)
    exact vR0 i23_200 m23
  refine vSw 195 (v := 102) rfl i23_1 rfl rfl ?_ (fun h102 => ?_)
  · refine vLan 196 i23_195 rfl rfl ?_
    refine vLin 197 i23_196 rfl rfl ?_
    refine vCallV 200 [.ref 1, vi a0] [] [(0, .ref 1), (1, vi a0)] i23_197 rfl (xlk0 l23_115) (Or.inl rfl) m26 rfl rfl (Nat.le_of_ble_eq_true rfl) (Nat.le_of_ble_eq_true rfl) (Nat.le_of_ble_eq_true rfl) (xh0 sh_1 (by decide)) rfl rfl (fun R1 => c_x2_readNums N   (by omega) s a0) (fun s19 => ?_)
    exact vR0 i23_200 m23
  refine vSw 195 (v := 103) rfl i23_1 rfl rfl ?_ (fun h103 => ?_)
  · refine vLan 196 i23_195 rfl rfl ?_
    refine vLin 197 i23_196 rfl rfl ?_
    refine vCallV 200 [.ref 1, vi a0] [] [(0, .ref 1), (1, vi a0)] i23_197 rfl (xlk0 l23_115) (Or.inl rfl) m26 rfl rfl (Nat.le_of_ble_eq_true rfl) (Nat.le_of_ble_eq_true rfl) (Nat.le_of_ble_eq_true rfl) (xh0 sh_1 (by decide)) rfl rfl (fun R1 => c_x2_readNums N   (by omega) s a0) (fun s19 => ?_)
    exact vR0 i23_200 m23
  refine vSw 195 (v := 104) rfl i23_1 rfl rfl ?_ (fun h104 => ?_)
  · refine vLan 196 i23_195 rfl rfl ?_
    refine vLin 197 i23_196 rfl rfl ?_
    refine vCallV 200 [.ref 1, vi a0] [] [(0, .ref 1), (1, vi a0)] i23_197 rfl (xlk0 l23_115) (Or.inl rfl) m26 rfl rfl (Nat.le_of_ble_eq_true rfl) (Nat.le_of_ble_eq_true rfl) (Nat.le_of_ble_eq_true rfl) (xh0 sh_1 (by decide)) rfl rfl (fun R1 => c_x2_readNums N   (by omega) s a0) (fun s19 => ?_)
    exact vR0 i23_200 m23
  refine vSw 195 (v := 105) rfl i23_1 rfl rfl ?_ (fun h105 => ?_)
  · refine vLan 196 i23_195 rfl rfl ?_
    refine vLin 197 i23_196 rfl rfl ?_
    refine vCallV 200 [.ref 1, vi a0] [] [(0, .ref 1), (1, vi a0)] i23_197 rfl (xlk0 l23_115) (Or.inl rfl) m26 rfl rfl (Nat.le_of_ble_eq_true rfl) (Nat.le_of_ble_eq_true rfl) (Nat.le_of_ble_eq_true rfl) (xh0 sh_1 (by decide)) rfl rfl (fun R1 => c_x2_readNums N   (by omega) s a0) (fun s19 => ?_)
    exact vR0 i23_200 m23
  refine vSw 195 (v := 106) rfl i23_1 rfl rfl ?_ (fun h106 => ?_)
  · refine vLan 196 i23_195 rfl rfl ?_
    refine vLin 197 i23_196 rfl rfl ?_
    refine vCallV 200 [.ref 1, vi a0] [] [(0, .ref 1), (1, vi a0)] i23_197 rfl (xlk0 l23_115) (Or.inl rfl) m26 rfl rfl (Nat.le_of_ble_eq_true rfl) (Nat.le_of_ble_eq_true rfl) (Nat.le_of_ble_eq_true rfl) (xh0 sh_1 (by decide)) rfl rfl (fun R1 => c_x2_readNums N   (by omega) s a0) (fun s19 => ?_)
    exact vR0 i23_200 m23
  refine vSw 195 (v := 107) rfl i23_1 rfl rfl ?_ (fun h107 => ?_)
  · refine vLan 196 i23_195 rfl rfl ?_
    refine vLin 197 i23_196 rfl rfl ?_
    refine vCallV 200 [.ref 1, vi a0] [] [(0, .ref 1), (1, vi a0)] i23_197 rfl (xlk0 l23_115) (Or.inl rfl) m26 rfl rfl (Nat.le_of_ble_eq_true rfl) (Nat.le_of_ble_eq_true rfl) (Nat.le_of_ble_eq_true rfl) (xh0 sh_1 (by decide)) rfl rfl (fun R1 => c_x2_readNums N   (by omega) s a0) (fun s19 => ?_)
    exact vR0 i23_200 m23
  refine vSw 195 (v := 108) rfl i23_1 rfl rfl ?_ (fun h108 => ?_)
  · refine vLan 196 i23_195 rfl rfl ?_
    refine vLin 197 i23_196 rfl rfl ?_
    refine vCallV 200 [.ref 1, vi a0] [] [(0, .ref 1), (1, vi a0)] i23_197 rfl (xlk0 l23_115) (Or.inl rfl) m26 rfl rfl (Nat.le_of_ble_eq_true rfl) (Nat.le_of_ble_eq_true rfl) (Nat.le_of_ble_eq_true rfl) (xh0 sh_1 (by decide)) rfl rfl (fun R1 => c_x2_readNums N   (by omega) s a0) (fun s19 => ?_)
    exact vR0 i23_200 m23
  refine vSw 195 (v := 109) rfl i23_1 rfl rfl ?_ (fun h109 => ?_)
  · refine vLan 196 i23_195 rfl rfl ?_
    refine vLin 197 i23_196 rfl rfl ?_
    refine vCallV 200 [.ref 1, vi a0] [] [(0, .ref 1), (1, vi a0)] i23_197 rfl (xlk0 l23_115) (Or.inl rfl) m26 rfl rfl (Nat.le_of_ble_eq_true rfl) (Nat.le_of_ble_eq_true rfl) (Nat.le_of_ble_eq_true rfl) (xh0 sh_1 (by decide)) rfl rfl (fun R1 => c_x2_readNums N   (by omega) s a0) (fun s19 => ?_)
    exact vR0 i23_200 m23
  refine vSw 195 (v := 112) rfl i23_1 rfl rfl ?_ (fun h112 => ?_)
  · refine vLan 196 i23_195 rfl rfl ?_
    refine vLin 197 i23_196 rfl rfl ?_
    refine vCallV 200 [.ref 1, vi a0] [] [(0, .ref 1), (1, vi a0)] i23_197 rfl (xlk0 l23_115) (Or.inl rfl) m26 rfl rfl (Nat.le_of_ble_eq_true rfl) (Nat.le_of_ble_eq_true rfl) (Nat.le_of_ble_eq_true rfl) (xh0 sh_1 (by decide)) rfl rfl (fun R1 => c_x2_readNums N   (by omega) s a0) (fun s19 => ?_)
    exact vR0 i23_200 m23
  refine vSw 195 (v := 113) rfl i23_1 rfl rfl ?_ (fun h113 => ?_)
  · refine vLan 196 i23_195 rfl rfl ?_
    refine vLin 197 i23_196 rfl rfl ?_
    refine vCallV 200 [.ref 1, vi a0] [] [(0, .ref 1), (1, vi a0)] i23_197 rfl (xlk0 l23_115) (Or.inl rfl) m26 rfl rfl (Nat.le_of_ble_eq_true rfl) (Nat.le_of_ble_eq_true rfl) (Nat.le_of_ble_eq_true rfl) (xh0 sh_1 (by decide)) rfl rfl (fun R1 => c_x2_readNums N   (by omega) s a0) (fun s19 => ?_)
    exact vR0 i23_200 m23
  refine vSw 195 (v := 114) rfl i23_1 rfl rfl ?_ (fun h114 => ?_)
  · refine vLan 196 i23_195 rfl rfl ?_
    refine vLin 197 i23_196 rfl rfl ?_
    refine vCallV 200 [.ref 1, vi a0] [] [(0, .ref 1), (1, vi a0)] i23_197 rfl (xlk0 l23_115) (Or.inl rfl) m26 rfl rfl (Nat.le_of_ble_eq_true rfl) (Nat.le_of_ble_eq_true rfl) (Nat.le_of_ble_eq_true rfl) (xh0 sh_1 (by decide)) rfl rfl (fun R1 => c_x2_readNums N   (by omega) s a0) (fun s19 => ?_)
    exact vR0 i23_200 m23
  refine vSwD 195 i23_1 (by omega) rfl ?_
  refine vLan 196 i23_195 rfl rfl ?_
  refine vLin 197 i23_196 rfl rfl ?_
  refine vCallV 200 [.ref 1, vi a0] [] [(0, .ref 1), (1, vi a0)] i23_197 rfl (xlk0 l23_115) (Or.inl rfl) m26 rfl rfl (Nat.le_of_ble_eq_true rfl) (Nat.le_of_ble_eq_true rfl) (Nat.le_of_ble_eq_true rfl) (xh0 sh_1 (by decide)) rfl rfl (fun R1 => c_x2_readNums N   (by omega) s a0) (fun s19 => ?_)
  exact vR0 i23_200 m23
theorem f27_31 : xFld xg 27 31 = some (1, 4) := by decide +kernel
theorem f27_37 : xFld xg 27 37 = some (1, 6) := by decide +kernel
theorem f27_14 : xFld xg 27 14 = some (1, 0) := by decide +kernel
theorem f27_40 : xFld xg 27 40 = some (1, 7) := by decide +kernel
theorem f27_74 : xFld xg 27 74 = some (4, 3) := by decide +kernel
theorem f27_24 : xFld xg 27 24 = some (1, 2) := by decide +kernel
theorem f27_28 : xFld xg 27 28 = some (1, 3) := by decide +kernel
theorem f27_34 : xFld xg 27 34 = some (1, 5) := by decide +kernel
theorem i27_97 : xIns xg 27 97 = some (.iload 4) := by decide +kernel
theorem i27_99 : xIns xg 27 99 = some (.aload_n 3) := by decide +kernel
theorem i27_100 : xIns xg 27 100 = some (.invokevirtual 81) := by decide +kernel
theorem i27_103 : xIns xg 27 103 = some (.if_icmp .ge 28) := by decide +kernel
theorem i27_131 : xIns xg 27 131 = some (.return_) := by decide +kernel
theorem m27 : (xMet xg 27).2.2 = (5, none) := by decide +kernel
theorem i27_106 : xIns xg 27 106 = some (.aload_n 0) := by decide +kernel
theorem i27_107 : xIns xg 27 107 = some (.getfield 40) := by decide +kernel
theorem i27_110 : xIns xg 27 110 = some (.iconst (-1)) := by decide +kernel
theorem i27_111 : xIns xg 27 111 = some (.if_icmp .ne 20) := by decide +kernel
theorem i27_114 : xIns xg 27 114 = some (.aload_n 0) := by decide +kernel
theorem i27_115 : xIns xg 27 115 = some (.iload_n 1) := by decide +kernel
theorem i27_116 : xIns xg 27 116 = some (.aload_n 3) := by decide +kernel
theorem i27_117 : xIns xg 27 117 = some (.iload 4) := by decide +kernel
theorem i27_119 : xIns xg 27 119 = some (.invokevirtual 87) := by decide +kernel
theorem i27_122 : xIns xg 27 122 = some (.invokevirtual 91) := by decide +kernel
theorem i27_125 : xIns xg 27 125 = some (.iinc 4 1) := by decide +kernel
theorem i27_128 : xIns xg 27 128 = some (.goto (-31)) := by decide +kernel
theorem i27_79 : xIns xg 27 79 = some (.aload_n 0) := by decide +kernel
theorem i27_80 : xIns xg 27 80 = some (.dup) := by decide +kernel
theorem i27_81 : xIns xg 27 81 = some (.getfield 37) := by decide +kernel
theorem i27_84 : xIns xg 27 84 = some (.iconst 1) := by decide +kernel
theorem i27_85 : xIns xg 27 85 = some (.iadd) := by decide +kernel
theorem i27_86 : xIns xg 27 86 = some (.putfield 37) := by decide +kernel
theorem p27_37 : xPut xg 27 37 = some (1, 6, .int) := by decide +kernel
theorem i27_89 : xIns xg 27 89 = some (.iload_n 2) := by decide +kernel
theorem i27_90 : xIns xg 27 90 = some (.invokestatic 77) := by decide +kernel
theorem i27_93 : xIns xg 27 93 = some (.astore_n 3) := by decide +kernel
theorem i27_94 : xIns xg 27 94 = some (.iconst 0) := by decide +kernel
theorem i27_95 : xIns xg 27 95 = some (.istore 4) := by decide +kernel
theorem i27_26 : xIns xg 27 26 = some (.istore_n 2) := by decide +kernel
theorem i27_27 : xIns xg 27 27 = some (.aload_n 0) := by decide +kernel
theorem i27_28 : xIns xg 27 28 = some (.getfield 14) := by decide +kernel
theorem i27_31 : xIns xg 27 31 = some (.iload_n 1) := by decide +kernel
theorem i27_32 : xIns xg 27 32 = some (.iload_n 2) := by decide +kernel
theorem i27_33 : xIns xg 27 33 = some (.iconst 0) := by decide +kernel
theorem i27_34 : xIns xg 27 34 = some (.invokestatic 65) := by decide +kernel
theorem i27_37 : xIns xg 27 37 = some (.invokevirtual 71) := by decide +kernel
theorem i27_40 : xIns xg 27 40 = some (.iload_n 2) := by decide +kernel
theorem i27_41 : xIns xg 27 41 = some (.ifCond .ge 8) := by decide +kernel
theorem i27_49 : xIns xg 27 49 = some (.iload_n 2) := by decide +kernel
theorem i27_50 : xIns xg 27 50 = some (.ifCond .ne 29) := by decide +kernel
theorem i27_53 : xIns xg 27 53 = some (.aload_n 0) := by decide +kernel
theorem i27_54 : xIns xg 27 54 = some (.getfield 14) := by decide +kernel
theorem i27_57 : xIns xg 27 57 = some (.getfield 74) := by decide +kernel
theorem i27_60 : xIns xg 27 60 = some (.iload_n 1) := by decide +kernel
theorem i27_61 : xIns xg 27 61 = some (.aload_n 0) := by decide +kernel
theorem i27_62 : xIns xg 27 62 = some (.getfield 24) := by decide +kernel
theorem i27_65 : xIns xg 27 65 = some (.aload_n 0) := by decide +kernel
theorem i27_66 : xIns xg 27 66 = some (.getfield 28) := by decide +kernel
theorem i27_69 : xIns xg 27 69 = some (.aload_n 0) := by decide +kernel
theorem i27_70 : xIns xg 27 70 = some (.getfield 37) := by decide +kernel
theorem i27_73 : xIns xg 27 73 = some (.iaload) := by decide +kernel
theorem i27_74 : xIns xg 27 74 = some (.iaload) := by decide +kernel
theorem i27_75 : xIns xg 27 75 = some (.bipush 97) := by decide +kernel
theorem i27_77 : xIns xg 27 77 = some (.isub) := by decide +kernel
theorem i27_78 : xIns xg 27 78 = some (.iastore) := by decide +kernel
theorem i27_44 : xIns xg 27 44 = some (.aload_n 0) := by decide +kernel
theorem i27_45 : xIns xg 27 45 = some (.invokevirtual 58) := by decide +kernel
theorem i27_48 : xIns xg 27 48 = some (.return_) := by decide +kernel
theorem i27_0 : xIns xg 27 0 = some (.aload_n 0) := by decide +kernel
theorem i27_1 : xIns xg 27 1 = some (.getfield 31) := by decide +kernel
theorem i27_4 : xIns xg 27 4 = some (.aload_n 0) := by decide +kernel
theorem i27_5 : xIns xg 27 5 = some (.getfield 37) := by decide +kernel
theorem i27_8 : xIns xg 27 8 = some (.iaload) := by decide +kernel
theorem i27_9 : xIns xg 27 9 = some (.iconst 1) := by decide +kernel
theorem i27_10 : xIns xg 27 10 = some (.if_icmp .ne 15) := by decide +kernel
theorem i27_25 : xIns xg 27 25 = some (.iconst (-1)) := by decide +kernel
theorem i27_13 : xIns xg 27 13 = some (.aload_n 0) := by decide +kernel
theorem i27_14 : xIns xg 27 14 = some (.getfield 34) := by decide +kernel
theorem i27_17 : xIns xg 27 17 = some (.aload_n 0) := by decide +kernel
theorem i27_18 : xIns xg 27 18 = some (.getfield 37) := by decide +kernel
theorem i27_21 : xIns xg 27 21 = some (.iaload) := by decide +kernel
theorem i27_22 : xIns xg 27 22 = some (.goto 4) := by decide +kernel
def d_x2_readPart_97 (N : Nat)  (k97 : St → Int → Nat → Int → Option Rs) (s : St) (x1 : Int) (y3 : Nat) (x4 : Int) : Option Rs :=
  if y3 = 1000 then none else if y3 % 2 = 1 ∧ y3 / 2 < 25 then bI (d_j0_length_8abf5 N  s y3) fun s1 v2 => (if (w32 x4) < (w32 v2) then (if (w32 (s1 1 7)) = (-1) then if y3 = 1000 then none else if y3 % 2 = 1 ∧ y3 / 2 < 25 then bI (d_j0_charAt_5068e N  s1 y3 x4) fun s3 v4 => bV (d_x2_readField N  s3 x1 v4) fun s5 => bd (x4 + 1) fun v7 => k97 s5 x1 y3 v7 else none else some (s1, 0)) else some (s1, 0)) else none
def d_x2_readPart_97L (N : Nat)  : Nat → St → Int → Nat → Int → Option Rs
  | 0 => fun _ _ _ _ => none
  | n + 1 => d_x2_readPart_97 N  (d_x2_readPart_97L N  n)
set_option maxHeartbeats 4000000 in
set_option maxRecDepth 100000 in
theorem c_x2_readPart_97 {sc : xS} {d : Nat} {R : Rs} (N : Nat)  (hd : 6 ≤ d)   (k97 : St → Int → Nat → Int → Option Rs) (hk97 : ∀ (s : St) (x1 : Int) (y3 : Nat) (x4 : Int), k97 s x1 y3 x4 = some R → vT sc d 27 97 [(0, .ref 1), (1, vi x1), (3, .retAddr y3), (4, vi x4)] [] s (fun r => r = qV R)) (s : St) (x1 : Int) (y3 : Nat) (x4 : Int) : d_x2_readPart_97 N  k97 s x1 y3 x4 = some R → vT sc d 27 97 [(0, .ref 1), (1, vi x1), (3, .retAddr y3), (4, vi x4)] [] s (fun r => r = qV R) := by
  obtain ⟨d, rfl⟩ : ∃ d', d = d' + 1 := ⟨d - 1, by omega⟩
  unfold d_x2_readPart_97
  refine vLi 99 i27_97 rfl rfl ?_
  refine vLsn 100 i27_99 rfl rfl ?_
  refine vX98 (e := y3) (fun hx98 => ?_)
  refine vCallI 103 [.retAddr y3] [vi x4] [(0, .retAddr y3)] i27_100 rfl (xlk0 l27_81) (Or.inl rfl) m204 rfl rfl (Nat.le_of_ble_eq_true rfl) (Nat.le_of_ble_eq_true rfl) (Nat.le_of_ble_eq_true rfl) (xh98 hx98) rfl rfl (fun R1 => c_j0_length_8abf5 N   (by omega) s y3) (fun s1 v2 => ?_)
  refine vCge 131 106 rfl rfl i27_103 rfl rfl ?_ ?_
  · exact vR0 i27_131 m27
  · refine vLan 107 i27_106 rfl rfl ?_
    refine vGet 110 i27_107 f27_40 sh_1 rfl rfl ?_
    refine vK 111 i27_110 rfl ?_
    refine vCne 131 114 rfl (show w32 (-1) = (-1) from rfl) i27_111 rfl rfl ?_ ?_
    · exact vR0 i27_131 m27
    · refine vLan 115 i27_114 rfl rfl ?_
      refine vLin 116 i27_115 rfl rfl ?_
      refine vLsn 117 i27_116 rfl rfl ?_
      refine vLi 119 i27_117 rfl rfl ?_
      refine vX98 (e := y3) (fun hx98 => ?_)
      refine vCallI 122 [.retAddr y3, vi x4] [vi x1, .ref 1] [(0, .retAddr y3), (1, vi x4)] i27_119 rfl (xlk0 l27_87) (Or.inl rfl) m197 rfl rfl (Nat.le_of_ble_eq_true rfl) (Nat.le_of_ble_eq_true rfl) (Nat.le_of_ble_eq_true rfl) (xh98 hx98) rfl rfl (fun R1 => c_j0_charAt_5068e N   (by omega) s1 y3 x4) (fun s3 v4 => ?_)
      refine vCallV 125 [.ref 1, vi x1, vi v4] [] [(0, .ref 1), (1, vi x1), (2, vi v4)] i27_122 rfl (xlk0 l27_91) (Or.inl rfl) m23 rfl rfl (Nat.le_of_ble_eq_true rfl) (Nat.le_of_ble_eq_true rfl) (Nat.le_of_ble_eq_true rfl) (xh0 sh_1 (by decide)) rfl rfl (fun R1 => c_x2_readField N   (by omega) s3 x1 v4) (fun s5 => ?_)
      refine vInc 128 (fun v7 => [(4, vi v7), (0, .ref 1), (1, vi x1), (3, .retAddr y3)]) i27_125 m27 (by decide) rfl (fun _ => rfl) rfl (fun v7 => ?_)
      refine vGo 97 i27_128 rfl ?_
      exact fun hD => tLc [(0, .ref 1), (1, vi x1), (3, .retAddr y3), (4, vi v7)] (xNdk [0, 1, 3, 4] rfl (by decide)) (xNdk [4, 0, 1, 3] rfl (by decide)) ⟨rfl, rfl, rfl, rfl, trivial⟩ (hk97 s5 x1 y3 v7 hD)
theorem c_x2_readPart_97L {sc : xS} {d : Nat} {R : Rs} (N : Nat)  (hd : 6 ≤ d)   : ∀ (n : Nat) (s : St) (x1 : Int) (y3 : Nat) (x4 : Int), d_x2_readPart_97L N  n s x1 y3 x4 = some R → vT sc d 27 97 [(0, .ref 1), (1, vi x1), (3, .retAddr y3), (4, vi x4)] [] s (fun r => r = qV R) := by
  intro n
  induction n with
  | zero => intro s x1 y3 x4 hD; cases hD
  | succ n ih => intro s x1 y3 x4 hD; exact c_x2_readPart_97 N  hd  _ ih s x1 y3 x4 hD
def d_x2_readPart_79 (N : Nat)  (s : St) (x1 : Int) (x2 : Int) : Option Rs :=
  bd (up s 1 6 ((s 1 6) + 1)) fun s8 => bS (d_x0_shape N  s8 x2) fun s9 g10 => if g10 = 1000 then none else bd g10 fun g11 => d_x2_readPart_97L N  N s9 x1 g11 0
set_option maxHeartbeats 4000000 in
set_option maxRecDepth 100000 in
theorem c_x2_readPart_79 {sc : xS} {d : Nat} {R : Rs} (N : Nat)  (hd : 6 ≤ d)   (s : St) (x1 : Int) (x2 : Int) : d_x2_readPart_79 N  s x1 x2 = some R → vT sc d 27 79 [(0, .ref 1), (1, vi x1), (2, vi x2)] [] s (fun r => r = qV R) := by
  obtain ⟨d, rfl⟩ : ∃ d', d = d' + 1 := ⟨d - 1, by omega⟩
  unfold d_x2_readPart_79
  refine vLan 80 i27_79 rfl rfl ?_
  refine vD 81 i27_80 rfl rfl rfl ?_
  refine vGet 84 i27_81 f27_37 sh_1 rfl rfl ?_
  refine vK 85 i27_84 rfl ?_
  refine vIadd 86 i27_85 rfl ?_
  refine vPut 89 i27_86 p27_37 sh_1 rfl rfl (fun s8 => ?_)
  refine vLin 90 i27_89 rfl rfl ?_
  refine vCallS 93 [vi x2] [] [(0, vi x2)] i27_90 rfl (xlk1 l27_77) (Or.inr (Or.inl rfl)) m4 rfl rfl (Nat.le_of_ble_eq_true rfl) (Nat.le_of_ble_eq_true rfl) (Nat.le_of_ble_eq_true rfl) rfl rfl rfl (fun R1 => c_x0_shape N   (by omega) s8 x2) (fun s9 g10 => ?_)
  refine vSxn 94 (fun g11 => [(3, .retAddr g11), (0, .ref 1), (1, vi x1), (2, vi x2)]) i27_93 m27 (by decide) (fun _ => rfl) rfl (fun g11 => ?_)
  refine vK 95 i27_94 rfl ?_
  refine vSi0 97 [(4, vi 0), (3, .retAddr g11), (0, .ref 1), (1, vi x1), (2, vi x2)] i27_95 m27 (by decide) rfl rfl ?_
  exact fun hD => tLc [(0, .ref 1), (1, vi x1), (3, .retAddr g11), (4, vi 0)] (xNdk [0, 1, 3, 4] rfl (by decide)) (xNdk [4, 3, 0, 1, 2] rfl (by decide)) ⟨rfl, rfl, rfl, rfl, trivial⟩ (c_x2_readPart_97L N  hd  N s9 x1 g11 0 hD)
def d_x2_readPart_26 (N : Nat)  (s : St) (x1 : Int) (z0 : Int) : Option Rs :=
  bV (d_x5_clearPart N 2 1 s x1 (if (w32 z0) < 0 then 0 else z0)) fun s12 => (if (w32 z0) < 0 then bV (d_x2_miss N  s12 ) fun s15 => some (s15, 0) else (if (w32 z0) = 0 then if 0 ≤ (w32 (s12 1 6)) ∧ (w32 (s12 1 6)) < ((121 : Nat) : Int) then if 0 ≤ (w32 (s12 12 (Int.toNat (w32 (s12 1 6))))) ∧ (w32 (s12 12 (Int.toNat (w32 (s12 1 6))))) < ((120 : Nat) : Int) then if 0 ≤ (w32 x1) ∧ (w32 x1) < ((24 : Nat) : Int) then bd (up s12 6 (Int.toNat (w32 x1)) ((s12 11 (Int.toNat (w32 (s12 12 (Int.toNat (w32 (s12 1 6))))))) - 97)) fun s14 => d_x2_readPart_79 N  s14 x1 z0 else none else none else none else d_x2_readPart_79 N  s12 x1 z0))
set_option maxHeartbeats 4000000 in
set_option maxRecDepth 100000 in
theorem c_x2_readPart_26 {sc : xS} {d : Nat} {R : Rs} (N : Nat)  (hd : 6 ≤ d)   (s : St) (x1 : Int) (z0 : Int) : d_x2_readPart_26 N  s x1 z0 = some R → vT sc d 27 26 [(0, .ref 1), (1, vi x1)] [vi z0] s (fun r => r = qV R) := by
  obtain ⟨d, rfl⟩ : ∃ d', d = d' + 1 := ⟨d - 1, by omega⟩
  unfold d_x2_readPart_26
  refine vSin0 27 [(2, vi z0), (0, .ref 1), (1, vi x1)] i27_26 m27 (by decide) rfl rfl ?_
  refine vLan 28 i27_27 rfl rfl ?_
  refine vGetC 31 i27_28 f27_14 sh_1 rfl rfl ?_
  refine vLin 32 i27_31 rfl rfl ?_
  refine vLin 33 i27_32 rfl rfl ?_
  refine vK 34 i27_33 rfl ?_
  refine vMax 37 rfl (show w32 0 = 0 from rfl) i27_34 l27_65 (Nat.le_of_ble_eq_true rfl) rfl ?_
  refine vCallV 40 [.ref 2, vi x1, vi (if (w32 z0) < 0 then 0 else z0)] [] [(0, .ref 2), (1, vi x1), (2, vi (if (w32 z0) < 0 then 0 else z0))] i27_37 rfl (xlk0 l27_71) (Or.inl rfl) m62 rfl rfl (Nat.le_of_ble_eq_true rfl) (Nat.le_of_ble_eq_true rfl) (Nat.le_of_ble_eq_true rfl) (xh0 sh_2 (by decide)) rfl rfl (fun R1 => c_x5_clearPart N 2 1 isTexts_2 (by omega) s x1 (if (w32 z0) < 0 then 0 else z0)) (fun s12 => ?_)
  refine vLin 41 i27_40 rfl rfl ?_
  refine vZge 49 44 rfl i27_41 rfl rfl ?_ ?_
  · refine vLin 50 i27_49 rfl rfl ?_
    refine vZne 79 53 rfl i27_50 rfl rfl ?_ ?_
    · exact fun hD => tLc [(0, .ref 1), (1, vi x1), (2, vi z0)] (xNdk [0, 1, 2] rfl (by decide)) (xNdk [2, 0, 1] rfl (by decide)) ⟨rfl, rfl, rfl, trivial⟩ (c_x2_readPart_79 N  hd  s12 x1 z0 hD)
    · refine vLan 54 i27_53 rfl rfl ?_
      refine vGetC 57 i27_54 f27_14 sh_1 rfl rfl ?_
      refine vGetC 60 i27_57 f27_74 sh_2 rfl rfl ?_
      refine vLin 61 i27_60 rfl rfl ?_
      refine vLan 62 i27_61 rfl rfl ?_
      refine vGetC 65 i27_62 f27_24 sh_1 rfl rfl ?_
      refine vLan 66 i27_65 rfl rfl ?_
      refine vGetC 69 i27_66 f27_28 sh_1 rfl rfl ?_
      refine vLan 70 i27_69 rfl rfl ?_
      refine vGet 73 i27_70 f27_37 sh_1 rfl rfl ?_
      refine vIal 74 rfl i27_73 sh_12 rfl ?_
      refine vIal 75 rfl i27_74 sh_11 rfl ?_
      refine vKb 77 i27_75 (by decide) rfl ?_
      refine vIsub 78 i27_77 rfl ?_
      refine vIas 79 rfl i27_78 sh_6 rfl (fun s14 => ?_)
      exact fun hD => tLc [(0, .ref 1), (1, vi x1), (2, vi z0)] (xNdk [0, 1, 2] rfl (by decide)) (xNdk [2, 0, 1] rfl (by decide)) ⟨rfl, rfl, rfl, trivial⟩ (c_x2_readPart_79 N  hd  s14 x1 z0 hD)
  · refine vLan 45 i27_44 rfl rfl ?_
    refine vCallV 48 [.ref 1] [] [(0, .ref 1)] i27_45 rfl (xlk0 l27_58) (Or.inl rfl) m22 rfl rfl (Nat.le_of_ble_eq_true rfl) (Nat.le_of_ble_eq_true rfl) (Nat.le_of_ble_eq_true rfl) (xh0 sh_1 (by decide)) rfl rfl (fun R1 => c_x2_miss N   (by omega) s12 ) (fun s15 => ?_)
    exact vR0 i27_48 m27
def d_x2_readPart (N : Nat)  (s : St) (a0 : Int) : Option Rs :=
  if 0 ≤ (w32 (s 1 6)) ∧ (w32 (s 1 6)) < ((121 : Nat) : Int) then (if (w32 (s 13 (Int.toNat (w32 (s 1 6))))) = 1 then if 0 ≤ (w32 (s 1 6)) ∧ (w32 (s 1 6)) < ((121 : Nat) : Int) then d_x2_readPart_26 N  s a0 (s 14 (Int.toNat (w32 (s 1 6)))) else none else d_x2_readPart_26 N  s a0 (-1)) else none
set_option maxHeartbeats 4000000 in
set_option maxRecDepth 100000 in
theorem c_x2_readPart {sc : xS} {d : Nat} {R : Rs} (N : Nat)  (hd : 6 ≤ d)   (s : St) (a0 : Int) : d_x2_readPart N  s a0 = some R → vT sc d 27 0 [(0, .ref 1), (1, vi a0)] [] s (fun r => r = qV R) := by
  obtain ⟨d, rfl⟩ : ∃ d', d = d' + 1 := ⟨d - 1, by omega⟩
  unfold d_x2_readPart
  refine vLan 1 i27_0 rfl rfl ?_
  refine vGetC 4 i27_1 f27_31 sh_1 rfl rfl ?_
  refine vLan 5 i27_4 rfl rfl ?_
  refine vGet 8 i27_5 f27_37 sh_1 rfl rfl ?_
  refine vIal 9 rfl i27_8 sh_13 rfl ?_
  refine vK 10 i27_9 rfl ?_
  refine vCne 25 13 rfl (show w32 1 = 1 from rfl) i27_10 rfl rfl ?_ ?_
  · refine vK 26 i27_25 rfl ?_
    exact fun hD => c_x2_readPart_26 N  hd  s a0 (-1) hD
  · refine vLan 14 i27_13 rfl rfl ?_
    refine vGetC 17 i27_14 f27_34 sh_1 rfl rfl ?_
    refine vLan 18 i27_17 rfl rfl ?_
    refine vGet 21 i27_18 f27_37 sh_1 rfl rfl ?_
    refine vIal 22 rfl i27_21 sh_14 rfl ?_
    refine vGo 26 i27_22 rfl ?_
    exact fun hD => c_x2_readPart_26 N  hd  s a0 (s 14 (Int.toNat (w32 (s 1 6)))) hD
theorem f19_24 : xFld xg 19 24 = some (1, 2) := by decide +kernel
theorem i19_15 : xIns xg 19 15 = some (.iload 4) := by decide +kernel
theorem i19_17 : xIns xg 19 17 = some (.aload_n 1) := by decide +kernel
theorem i19_18 : xIns xg 19 18 = some (.invokevirtual 81) := by decide +kernel
theorem i19_21 : xIns xg 19 21 = some (.if_icmp .ge 29) := by decide +kernel
theorem i19_50 : xIns xg 19 50 = some (.iconst 1) := by decide +kernel
theorem i19_51 : xIns xg 19 51 = some (.ireturn) := by decide +kernel
theorem m19 : (xMet xg 19).2.2 = (5, (some .boolean)) := by decide +kernel
theorem i19_24 : xIns xg 19 24 = some (.aload_n 0) := by decide +kernel
theorem i19_25 : xIns xg 19 25 = some (.getfield 24) := by decide +kernel
theorem i19_28 : xIns xg 19 28 = some (.iload_n 2) := by decide +kernel
theorem i19_29 : xIns xg 19 29 = some (.iload 4) := by decide +kernel
theorem i19_31 : xIns xg 19 31 = some (.iadd) := by decide +kernel
theorem i19_32 : xIns xg 19 32 = some (.iaload) := by decide +kernel
theorem i19_33 : xIns xg 19 33 = some (.aload_n 1) := by decide +kernel
theorem i19_34 : xIns xg 19 34 = some (.iload 4) := by decide +kernel
theorem i19_36 : xIns xg 19 36 = some (.invokevirtual 87) := by decide +kernel
theorem i19_39 : xIns xg 19 39 = some (.if_icmp .eq 5) := by decide +kernel
theorem i19_44 : xIns xg 19 44 = some (.iinc 4 1) := by decide +kernel
theorem i19_47 : xIns xg 19 47 = some (.goto (-32)) := by decide +kernel
theorem i19_42 : xIns xg 19 42 = some (.iconst 0) := by decide +kernel
theorem i19_43 : xIns xg 19 43 = some (.ireturn) := by decide +kernel
theorem i19_0 : xIns xg 19 0 = some (.aload_n 1) := by decide +kernel
theorem i19_1 : xIns xg 19 1 = some (.invokevirtual 81) := by decide +kernel
theorem i19_4 : xIns xg 19 4 = some (.iload_n 3) := by decide +kernel
theorem i19_5 : xIns xg 19 5 = some (.iload_n 2) := by decide +kernel
theorem i19_6 : xIns xg 19 6 = some (.isub) := by decide +kernel
theorem i19_7 : xIns xg 19 7 = some (.if_icmp .eq 5) := by decide +kernel
theorem i19_12 : xIns xg 19 12 = some (.iconst 0) := by decide +kernel
theorem i19_13 : xIns xg 19 13 = some (.istore 4) := by decide +kernel
theorem i19_10 : xIns xg 19 10 = some (.iconst 0) := by decide +kernel
theorem i19_11 : xIns xg 19 11 = some (.ireturn) := by decide +kernel
def d_x2_isWord_15 (N : Nat)  (k15 : St → Nat → Int → Int → Option Rs) (s : St) (y1 : Nat) (x2 : Int) (x4 : Int) : Option Rs :=
  if y1 = 1000 then none else if y1 % 2 = 1 ∧ y1 / 2 < 25 then bI (d_j0_length_8abf5 N  s y1) fun s1 v2 => (if (w32 x4) < (w32 v2) then if 0 ≤ (w32 (x2 + x4)) ∧ (w32 (x2 + x4)) < ((120 : Nat) : Int) then if y1 = 1000 then none else if y1 % 2 = 1 ∧ y1 / 2 < 25 then bI (d_j0_charAt_5068e N  s1 y1 x4) fun s3 v4 => (if (w32 (s1 11 (Int.toNat (w32 (x2 + x4))))) = (w32 v4) then bd (x4 + 1) fun v5 => k15 s3 y1 x2 v5 else some (s3, 0)) else none else none else some (s1, 1)) else none
def d_x2_isWord_15L (N : Nat)  : Nat → St → Nat → Int → Int → Option Rs
  | 0 => fun _ _ _ _ => none
  | n + 1 => d_x2_isWord_15 N  (d_x2_isWord_15L N  n)
set_option maxHeartbeats 4000000 in
set_option maxRecDepth 100000 in
theorem c_x2_isWord_15 {sc : xS} {d : Nat} {R : Rs} (N : Nat)  (hd : 4 ≤ d)   (k15 : St → Nat → Int → Int → Option Rs) (hk15 : ∀ (s : St) (y1 : Nat) (x2 : Int) (x4 : Int), k15 s y1 x2 x4 = some R → vT sc d 19 15 [(0, .ref 1), (1, .retAddr y1), (2, vi x2), (4, vi x4)] [] s (fun r => r = qI R)) (s : St) (y1 : Nat) (x2 : Int) (x4 : Int) : d_x2_isWord_15 N  k15 s y1 x2 x4 = some R → vT sc d 19 15 [(0, .ref 1), (1, .retAddr y1), (2, vi x2), (4, vi x4)] [] s (fun r => r = qI R) := by
  obtain ⟨d, rfl⟩ : ∃ d', d = d' + 1 := ⟨d - 1, by omega⟩
  unfold d_x2_isWord_15
  refine vLi 17 i19_15 rfl rfl ?_
  refine vLsn 18 i19_17 rfl rfl ?_
  refine vX98 (e := y1) (fun hx98 => ?_)
  refine vCallI 21 [.retAddr y1] [vi x4] [(0, .retAddr y1)] i19_18 rfl (xlk0 l19_81) (Or.inl rfl) m204 rfl rfl (Nat.le_of_ble_eq_true rfl) (Nat.le_of_ble_eq_true rfl) (Nat.le_of_ble_eq_true rfl) (xh98 hx98) rfl rfl (fun R1 => c_j0_length_8abf5 N   (by omega) s y1) (fun s1 v2 => ?_)
  refine vCge 50 24 rfl rfl i19_21 rfl rfl ?_ ?_
  · refine vK 51 i19_50 rfl ?_
    exact vRi i19_51 m19 (by decide)
  · refine vLan 25 i19_24 rfl rfl ?_
    refine vGetC 28 i19_25 f19_24 sh_1 rfl rfl ?_
    refine vLin 29 i19_28 rfl rfl ?_
    refine vLi 31 i19_29 rfl rfl ?_
    refine vIadd 32 i19_31 rfl ?_
    refine vIal 33 rfl i19_32 sh_11 rfl ?_
    refine vLsn 34 i19_33 rfl rfl ?_
    refine vLi 36 i19_34 rfl rfl ?_
    refine vX98 (e := y1) (fun hx98 => ?_)
    refine vCallI 39 [.retAddr y1, vi x4] [vi (s1 11 (Int.toNat (w32 (x2 + x4))))] [(0, .retAddr y1), (1, vi x4)] i19_36 rfl (xlk0 l19_87) (Or.inl rfl) m197 rfl rfl (Nat.le_of_ble_eq_true rfl) (Nat.le_of_ble_eq_true rfl) (Nat.le_of_ble_eq_true rfl) (xh98 hx98) rfl rfl (fun R1 => c_j0_charAt_5068e N   (by omega) s1 y1 x4) (fun s3 v4 => ?_)
    refine vCeq 44 42 rfl rfl i19_39 rfl rfl ?_ ?_
    · refine vInc 47 (fun v5 => [(4, vi v5), (0, .ref 1), (1, .retAddr y1), (2, vi x2)]) i19_44 m19 (by decide) rfl (fun _ => rfl) rfl (fun v5 => ?_)
      refine vGo 15 i19_47 rfl ?_
      exact fun hD => tLc [(0, .ref 1), (1, .retAddr y1), (2, vi x2), (4, vi v5)] (xNdk [0, 1, 2, 4] rfl (by decide)) (xNdk [4, 0, 1, 2] rfl (by decide)) ⟨rfl, rfl, rfl, rfl, trivial⟩ (hk15 s3 y1 x2 v5 hD)
    · refine vK 43 i19_42 rfl ?_
      exact vRi i19_43 m19 (by decide)
theorem c_x2_isWord_15L {sc : xS} {d : Nat} {R : Rs} (N : Nat)  (hd : 4 ≤ d)   : ∀ (n : Nat) (s : St) (y1 : Nat) (x2 : Int) (x4 : Int), d_x2_isWord_15L N  n s y1 x2 x4 = some R → vT sc d 19 15 [(0, .ref 1), (1, .retAddr y1), (2, vi x2), (4, vi x4)] [] s (fun r => r = qI R) := by
  intro n
  induction n with
  | zero => intro s y1 x2 x4 hD; cases hD
  | succ n ih => intro s y1 x2 x4 hD; exact c_x2_isWord_15 N  hd  _ ih s y1 x2 x4 hD
def d_x2_isWord (N : Nat)  (s : St) (e1 : Nat) (a1 : Int) (a2 : Int) : Option Rs :=
  if e1 = 1000 then none else if e1 % 2 = 1 ∧ e1 / 2 < 25 then bI (d_j0_length_8abf5 N  s e1) fun s6 v7 => (if (w32 v7) = (w32 (a2 - a1)) then d_x2_isWord_15L N  N s6 e1 a1 0 else some (s6, 0)) else none
set_option maxHeartbeats 4000000 in
set_option maxRecDepth 100000 in
theorem c_x2_isWord {sc : xS} {d : Nat} {R : Rs} (N : Nat)  (hd : 4 ≤ d)   (s : St) (e1 : Nat) (a1 : Int) (a2 : Int) : d_x2_isWord N  s e1 a1 a2 = some R → vT sc d 19 0 [(0, .ref 1), (1, .retAddr e1), (2, vi a1), (3, vi a2)] [] s (fun r => r = qI R) := by
  obtain ⟨d, rfl⟩ : ∃ d', d = d' + 1 := ⟨d - 1, by omega⟩
  unfold d_x2_isWord
  refine vLsn 1 i19_0 rfl rfl ?_
  refine vX98 (e := e1) (fun hx98 => ?_)
  refine vCallI 4 [.retAddr e1] [] [(0, .retAddr e1)] i19_1 rfl (xlk0 l19_81) (Or.inl rfl) m204 rfl rfl (Nat.le_of_ble_eq_true rfl) (Nat.le_of_ble_eq_true rfl) (Nat.le_of_ble_eq_true rfl) (xh98 hx98) rfl rfl (fun R1 => c_j0_length_8abf5 N   (by omega) s e1) (fun s6 v7 => ?_)
  refine vLin 5 i19_4 rfl rfl ?_
  refine vLin 6 i19_5 rfl rfl ?_
  refine vIsub 7 i19_6 rfl ?_
  refine vCeq 12 10 rfl rfl i19_7 rfl rfl ?_ ?_
  · refine vK 13 i19_12 rfl ?_
    refine vSi0 15 [(4, vi 0), (0, .ref 1), (1, .retAddr e1), (2, vi a1), (3, vi a2)] i19_13 m19 (by decide) rfl rfl ?_
    exact fun hD => tLc [(0, .ref 1), (1, .retAddr e1), (2, vi a1), (4, vi 0)] (xNdk [0, 1, 2, 4] rfl (by decide)) (xNdk [4, 0, 1, 2, 3] rfl (by decide)) ⟨rfl, rfl, rfl, rfl, trivial⟩ (c_x2_isWord_15L N  hd  N s6 e1 a1 0 hD)
  · refine vK 11 i19_10 rfl ?_
    exact vRi i19_11 m19 (by decide)
theorem f20_24 : xFld xg 20 24 = some (1, 2) := by decide +kernel
theorem i20_26 : xIns xg 20 26 = some (.iload_n 3) := by decide +kernel
theorem i20_27 : xIns xg 20 27 = some (.bipush 14) := by decide +kernel
theorem i20_29 : xIns xg 20 29 = some (.if_icmp .ge 24) := by decide +kernel
theorem i20_53 : xIns xg 20 53 = some (.iconst (-1)) := by decide +kernel
theorem i20_54 : xIns xg 20 54 = some (.ireturn) := by decide +kernel
theorem m20 : (xMet xg 20).2.2 = (4, (some .int)) := by decide +kernel
theorem i20_32 : xIns xg 20 32 = some (.aload_n 0) := by decide +kernel
theorem i20_33 : xIns xg 20 33 = some (.iload_n 3) := by decide +kernel
theorem i20_34 : xIns xg 20 34 = some (.invokestatic 144) := by decide +kernel
theorem i20_37 : xIns xg 20 37 = some (.iload_n 1) := by decide +kernel
theorem i20_38 : xIns xg 20 38 = some (.iload_n 2) := by decide +kernel
theorem i20_39 : xIns xg 20 39 = some (.invokevirtual 147) := by decide +kernel
theorem i20_42 : xIns xg 20 42 = some (.ifCond .eq 5) := by decide +kernel
theorem i20_47 : xIns xg 20 47 = some (.iinc 3 1) := by decide +kernel
theorem i20_50 : xIns xg 20 50 = some (.goto (-24)) := by decide +kernel
theorem i20_45 : xIns xg 20 45 = some (.iload_n 3) := by decide +kernel
theorem i20_46 : xIns xg 20 46 = some (.ireturn) := by decide +kernel
theorem i20_0 : xIns xg 20 0 = some (.iload_n 2) := by decide +kernel
theorem i20_1 : xIns xg 20 1 = some (.iload_n 1) := by decide +kernel
theorem i20_2 : xIns xg 20 2 = some (.isub) := by decide +kernel
theorem i20_3 : xIns xg 20 3 = some (.iconst 1) := by decide +kernel
theorem i20_4 : xIns xg 20 4 = some (.if_icmp .ne 20) := by decide +kernel
theorem i20_24 : xIns xg 20 24 = some (.iconst 1) := by decide +kernel
theorem i20_25 : xIns xg 20 25 = some (.istore_n 3) := by decide +kernel
theorem i20_7 : xIns xg 20 7 = some (.aload_n 0) := by decide +kernel
theorem i20_8 : xIns xg 20 8 = some (.getfield 24) := by decide +kernel
theorem i20_11 : xIns xg 20 11 = some (.iload_n 1) := by decide +kernel
theorem i20_12 : xIns xg 20 12 = some (.iaload) := by decide +kernel
theorem i20_13 : xIns xg 20 13 = some (.bipush 105) := by decide +kernel
theorem i20_15 : xIns xg 20 15 = some (.if_icmp .ge 7) := by decide +kernel
theorem i20_22 : xIns xg 20 22 = some (.iconst (-1)) := by decide +kernel
theorem i20_23 : xIns xg 20 23 = some (.ireturn) := by decide +kernel
theorem i20_18 : xIns xg 20 18 = some (.iconst 0) := by decide +kernel
theorem i20_19 : xIns xg 20 19 = some (.goto 4) := by decide +kernel
def d_x2_kindOfWord_26 (N : Nat)  (k26 : St → Int → Int → Int → Option Rs) (s : St) (x1 : Int) (x2 : Int) (x3 : Int) : Option Rs :=
  (if (w32 x3) < 14 then bS (d_x0_word N  s x3) fun s1 g2 => bI (d_x2_isWord N  s1 g2 x1 x2) fun s3 v4 => (if (w32 v4) = 0 then bd (x3 + 1) fun v5 => k26 s3 x1 x2 v5 else some (s3, x3)) else some (s, (-1)))
def d_x2_kindOfWord_26L (N : Nat)  : Nat → St → Int → Int → Int → Option Rs
  | 0 => fun _ _ _ _ => none
  | n + 1 => d_x2_kindOfWord_26 N  (d_x2_kindOfWord_26L N  n)
set_option maxHeartbeats 4000000 in
set_option maxRecDepth 100000 in
theorem c_x2_kindOfWord_26 {sc : xS} {d : Nat} {R : Rs} (N : Nat)  (hd : 5 ≤ d)   (k26 : St → Int → Int → Int → Option Rs) (hk26 : ∀ (s : St) (x1 : Int) (x2 : Int) (x3 : Int), k26 s x1 x2 x3 = some R → vT sc d 20 26 [(0, .ref 1), (1, vi x1), (2, vi x2), (3, vi x3)] [] s (fun r => r = qI R)) (s : St) (x1 : Int) (x2 : Int) (x3 : Int) : d_x2_kindOfWord_26 N  k26 s x1 x2 x3 = some R → vT sc d 20 26 [(0, .ref 1), (1, vi x1), (2, vi x2), (3, vi x3)] [] s (fun r => r = qI R) := by
  obtain ⟨d, rfl⟩ : ∃ d', d = d' + 1 := ⟨d - 1, by omega⟩
  unfold d_x2_kindOfWord_26
  refine vLin 27 i20_26 rfl rfl ?_
  refine vKb 29 i20_27 (by decide) rfl ?_
  refine vCge 53 32 rfl (show w32 14 = 14 from rfl) i20_29 rfl rfl ?_ ?_
  · refine vK 54 i20_53 rfl ?_
    exact vRi i20_54 m20 rfl
  · refine vLan 33 i20_32 rfl rfl ?_
    refine vLin 34 i20_33 rfl rfl ?_
    refine vCallS 37 [vi x3] [.ref 1] [(0, vi x3)] i20_34 rfl (xlk1 l20_144) (Or.inr (Or.inl rfl)) m5 rfl rfl (Nat.le_of_ble_eq_true rfl) (Nat.le_of_ble_eq_true rfl) (Nat.le_of_ble_eq_true rfl) rfl rfl rfl (fun R1 => c_x0_word N   (by omega) s x3) (fun s1 g2 => ?_)
    refine vLin 38 i20_37 rfl rfl ?_
    refine vLin 39 i20_38 rfl rfl ?_
    refine vCallI 42 [.ref 1, .retAddr g2, vi x1, vi x2] [] [(0, .ref 1), (1, .retAddr g2), (2, vi x1), (3, vi x2)] i20_39 rfl (xlk0 l20_147) (Or.inl rfl) m19 rfl rfl (Nat.le_of_ble_eq_true rfl) (Nat.le_of_ble_eq_true rfl) (Nat.le_of_ble_eq_true rfl) (xh0 sh_1 (by decide)) rfl rfl (fun R1 => c_x2_isWord N   (by omega) s1 g2 x1 x2) (fun s3 v4 => ?_)
    refine vZeq 47 45 rfl i20_42 rfl rfl ?_ ?_
    · refine vInc 50 (fun v5 => [(3, vi v5), (0, .ref 1), (1, vi x1), (2, vi x2)]) i20_47 m20 (by decide) rfl (fun _ => rfl) rfl (fun v5 => ?_)
      refine vGo 26 i20_50 rfl ?_
      exact fun hD => tLc [(0, .ref 1), (1, vi x1), (2, vi x2), (3, vi v5)] (xNdk [0, 1, 2, 3] rfl (by decide)) (xNdk [3, 0, 1, 2] rfl (by decide)) ⟨rfl, rfl, rfl, rfl, trivial⟩ (hk26 s3 x1 x2 v5 hD)
    · refine vLin 46 i20_45 rfl rfl ?_
      exact vRi i20_46 m20 rfl
theorem c_x2_kindOfWord_26L {sc : xS} {d : Nat} {R : Rs} (N : Nat)  (hd : 5 ≤ d)   : ∀ (n : Nat) (s : St) (x1 : Int) (x2 : Int) (x3 : Int), d_x2_kindOfWord_26L N  n s x1 x2 x3 = some R → vT sc d 20 26 [(0, .ref 1), (1, vi x1), (2, vi x2), (3, vi x3)] [] s (fun r => r = qI R) := by
  intro n
  induction n with
  | zero => intro s x1 x2 x3 hD; cases hD
  | succ n ih => intro s x1 x2 x3 hD; exact c_x2_kindOfWord_26 N  hd  _ ih s x1 x2 x3 hD
def d_x2_kindOfWord (N : Nat)  (s : St) (a0 : Int) (a1 : Int) : Option Rs :=
  (if (w32 (a1 - a0)) = 1 then if 0 ≤ (w32 a0) ∧ (w32 a0) < ((120 : Nat) : Int) then (if (w32 (s 11 (Int.toNat (w32 a0)))) < 105 then some (s, 0) else some (s, (-1))) else none else d_x2_kindOfWord_26L N  N s a0 a1 1)
set_option maxHeartbeats 4000000 in
set_option maxRecDepth 100000 in
theorem c_x2_kindOfWord {sc : xS} {d : Nat} {R : Rs} (N : Nat)  (hd : 5 ≤ d)   (s : St) (a0 : Int) (a1 : Int) : d_x2_kindOfWord N  s a0 a1 = some R → vT sc d 20 0 [(0, .ref 1), (1, vi a0), (2, vi a1)] [] s (fun r => r = qI R) := by
  obtain ⟨d, rfl⟩ : ∃ d', d = d' + 1 := ⟨d - 1, by omega⟩
  unfold d_x2_kindOfWord
  refine vLin 1 i20_0 rfl rfl ?_
  refine vLin 2 i20_1 rfl rfl ?_
  refine vIsub 3 i20_2 rfl ?_
  refine vK 4 i20_3 rfl ?_
  refine vCne 24 7 rfl (show w32 1 = 1 from rfl) i20_4 rfl rfl ?_ ?_
  · refine vK 25 i20_24 rfl ?_
    refine vSin0 26 [(3, vi 1), (0, .ref 1), (1, vi a0), (2, vi a1)] i20_25 m20 (by decide) rfl rfl ?_
    exact fun hD => tLc [(0, .ref 1), (1, vi a0), (2, vi a1), (3, vi 1)] (xNdk [0, 1, 2, 3] rfl (by decide)) (xNdk [3, 0, 1, 2] rfl (by decide)) ⟨rfl, rfl, rfl, rfl, trivial⟩ (c_x2_kindOfWord_26L N  hd  N s a0 a1 1 hD)
  · refine vLan 8 i20_7 rfl rfl ?_
    refine vGetC 11 i20_8 f20_24 sh_1 rfl rfl ?_
    refine vLin 12 i20_11 rfl rfl ?_
    refine vIal 13 rfl i20_12 sh_11 rfl ?_
    refine vKb 15 i20_13 (by decide) rfl ?_
    refine vCge 22 18 rfl (show w32 105 = 105 from rfl) i20_15 rfl rfl ?_ ?_
    · refine vK 23 i20_22 rfl ?_
      exact vRi i20_23 m20 rfl
    · refine vK 19 i20_18 rfl ?_
      refine vGo 23 i20_19 rfl ?_
      exact vRi i20_23 m20 rfl
theorem f21_24 : xFld xg 21 24 = some (1, 2) := by decide +kernel
theorem i21_30 : xIns xg 21 30 = some (.iload 5) := by decide +kernel
theorem i21_32 : xIns xg 21 32 = some (.iload_n 3) := by decide +kernel
theorem i21_33 : xIns xg 21 33 = some (.if_icmp .ge 27) := by decide +kernel
theorem i21_60 : xIns xg 21 60 = some (.iload 4) := by decide +kernel
theorem i21_62 : xIns xg 21 62 = some (.ireturn) := by decide +kernel
theorem m21 : (xMet xg 21).2.2 = (6, (some .int)) := by decide +kernel
theorem i21_36 : xIns xg 21 36 = some (.iload 4) := by decide +kernel
theorem i21_38 : xIns xg 21 38 = some (.bipush 10) := by decide +kernel
theorem i21_40 : xIns xg 21 40 = some (.imul) := by decide +kernel
theorem i21_41 : xIns xg 21 41 = some (.aload_n 0) := by decide +kernel
theorem i21_42 : xIns xg 21 42 = some (.getfield 24) := by decide +kernel
theorem i21_45 : xIns xg 21 45 = some (.iload 5) := by decide +kernel
theorem i21_47 : xIns xg 21 47 = some (.iaload) := by decide +kernel
theorem i21_48 : xIns xg 21 48 = some (.iadd) := by decide +kernel
theorem i21_49 : xIns xg 21 49 = some (.bipush 48) := by decide +kernel
theorem i21_51 : xIns xg 21 51 = some (.isub) := by decide +kernel
theorem i21_52 : xIns xg 21 52 = some (.istore 4) := by decide +kernel
theorem i21_54 : xIns xg 21 54 = some (.iinc 5 1) := by decide +kernel
theorem i21_57 : xIns xg 21 57 = some (.goto (-27)) := by decide +kernel
theorem i21_0 : xIns xg 21 0 = some (.iload_n 1) := by decide +kernel
theorem i21_1 : xIns xg 21 1 = some (.iconst 1) := by decide +kernel
theorem i21_2 : xIns xg 21 2 = some (.if_icmp .ne 10) := by decide +kernel
theorem i21_12 : xIns xg 21 12 = some (.iload_n 1) := by decide +kernel
theorem i21_13 : xIns xg 21 13 = some (.iconst 2) := by decide +kernel
theorem i21_14 : xIns xg 21 14 = some (.if_icmp .eq 10) := by decide +kernel
theorem i21_24 : xIns xg 21 24 = some (.iconst 0) := by decide +kernel
theorem i21_25 : xIns xg 21 25 = some (.istore 4) := by decide +kernel
theorem i21_27 : xIns xg 21 27 = some (.iload_n 2) := by decide +kernel
theorem i21_28 : xIns xg 21 28 = some (.istore 5) := by decide +kernel
theorem i21_17 : xIns xg 21 17 = some (.aload_n 0) := by decide +kernel
theorem i21_18 : xIns xg 21 18 = some (.getfield 24) := by decide +kernel
theorem i21_21 : xIns xg 21 21 = some (.iload_n 2) := by decide +kernel
theorem i21_22 : xIns xg 21 22 = some (.iaload) := by decide +kernel
theorem i21_23 : xIns xg 21 23 = some (.ireturn) := by decide +kernel
theorem i21_5 : xIns xg 21 5 = some (.aload_n 0) := by decide +kernel
theorem i21_6 : xIns xg 21 6 = some (.iload_n 2) := by decide +kernel
theorem i21_7 : xIns xg 21 7 = some (.iload_n 3) := by decide +kernel
theorem i21_8 : xIns xg 21 8 = some (.invokevirtual 141) := by decide +kernel
theorem i21_11 : xIns xg 21 11 = some (.ireturn) := by decide +kernel
def d_x2_meaningOf_30 (N : Nat)  (k30 : St → Int → Int → Int → Option Rs) (s : St) (x3 : Int) (x4 : Int) (x5 : Int) : Option Rs :=
  (if (w32 x5) < (w32 x3) then if 0 ≤ (w32 x5) ∧ (w32 x5) < ((120 : Nat) : Int) then bd (((x4 * 10) + (s 11 (Int.toNat (w32 x5)))) - 48) fun v1 => bd (x5 + 1) fun v2 => k30 s x3 v1 v2 else none else some (s, x4))
def d_x2_meaningOf_30L (N : Nat)  : Nat → St → Int → Int → Int → Option Rs
  | 0 => fun _ _ _ _ => none
  | n + 1 => d_x2_meaningOf_30 N  (d_x2_meaningOf_30L N  n)
set_option maxHeartbeats 4000000 in
set_option maxRecDepth 100000 in
theorem c_x2_meaningOf_30 {sc : xS} {d : Nat} {R : Rs} (N : Nat)  (hd : 6 ≤ d)   (k30 : St → Int → Int → Int → Option Rs) (hk30 : ∀ (s : St) (x3 : Int) (x4 : Int) (x5 : Int), k30 s x3 x4 x5 = some R → vT sc d 21 30 [(0, .ref 1), (3, vi x3), (4, vi x4), (5, vi x5)] [] s (fun r => r = qI R)) (s : St) (x3 : Int) (x4 : Int) (x5 : Int) : d_x2_meaningOf_30 N  k30 s x3 x4 x5 = some R → vT sc d 21 30 [(0, .ref 1), (3, vi x3), (4, vi x4), (5, vi x5)] [] s (fun r => r = qI R) := by
  obtain ⟨d, rfl⟩ : ∃ d', d = d' + 1 := ⟨d - 1, by omega⟩
  unfold d_x2_meaningOf_30
  refine vLi 32 i21_30 rfl rfl ?_
  refine vLin 33 i21_32 rfl rfl ?_
  refine vCge 60 36 rfl rfl i21_33 rfl rfl ?_ ?_
  · refine vLi 62 i21_60 rfl rfl ?_
    exact vRi i21_62 m21 rfl
  · refine vLi 38 i21_36 rfl rfl ?_
    refine vKb 40 i21_38 (by decide) rfl ?_
    refine vImul 41 i21_40 rfl ?_
    refine vLan 42 i21_41 rfl rfl ?_
    refine vGetC 45 i21_42 f21_24 sh_1 rfl rfl ?_
    refine vLi 47 i21_45 rfl rfl ?_
    refine vIal 48 rfl i21_47 sh_11 rfl ?_
    refine vIadd 49 i21_48 rfl ?_
    refine vKb 51 i21_49 (by decide) rfl ?_
    refine vIsub 52 i21_51 rfl ?_
    refine vSi 54 (fun v1 => [(4, vi v1), (0, .ref 1), (3, vi x3), (5, vi x5)]) i21_52 m21 (by decide) (fun v1 => (rfl : xst1 [(0, .ref 1), (3, vi x3), (4, vi x4), (5, vi x5)] 4 (vi v1) = [(4, vi v1), (0, .ref 1), (3, vi x3), (5, vi x5)])) rfl (fun v1 => ?_)
    refine vInc 57 (fun v2 => [(5, vi v2), (4, vi v1), (0, .ref 1), (3, vi x3)]) i21_54 m21 (by decide) rfl (fun _ => rfl) rfl (fun v2 => ?_)
    refine vGo 30 i21_57 rfl ?_
    exact fun hD => tLc [(0, .ref 1), (3, vi x3), (4, vi v1), (5, vi v2)] (xNdk [0, 3, 4, 5] rfl (by decide)) (xNdk [5, 4, 0, 3] rfl (by decide)) ⟨rfl, rfl, rfl, rfl, trivial⟩ (hk30 s x3 v1 v2 hD)
theorem c_x2_meaningOf_30L {sc : xS} {d : Nat} {R : Rs} (N : Nat)  (hd : 6 ≤ d)   : ∀ (n : Nat) (s : St) (x3 : Int) (x4 : Int) (x5 : Int), d_x2_meaningOf_30L N  n s x3 x4 x5 = some R → vT sc d 21 30 [(0, .ref 1), (3, vi x3), (4, vi x4), (5, vi x5)] [] s (fun r => r = qI R) := by
  intro n
  induction n with
  | zero => intro s x3 x4 x5 hD; cases hD
  | succ n ih => intro s x3 x4 x5 hD; exact c_x2_meaningOf_30 N  hd  _ ih s x3 x4 x5 hD
def d_x2_meaningOf (N : Nat)  (s : St) (a0 : Int) (a1 : Int) (a2 : Int) : Option Rs :=
  (if (w32 a0) = 1 then bI (d_x2_kindOfWord N  s a1 a2) fun s3 v4 => some (s3, v4) else (if (w32 a0) = 2 then d_x2_meaningOf_30L N  N s a2 0 a1 else if 0 ≤ (w32 a1) ∧ (w32 a1) < ((120 : Nat) : Int) then some (s, (s 11 (Int.toNat (w32 a1)))) else none))
set_option maxHeartbeats 4000000 in
set_option maxRecDepth 100000 in
theorem c_x2_meaningOf {sc : xS} {d : Nat} {R : Rs} (N : Nat)  (hd : 6 ≤ d)   (s : St) (a0 : Int) (a1 : Int) (a2 : Int) : d_x2_meaningOf N  s a0 a1 a2 = some R → vT sc d 21 0 [(0, .ref 1), (1, vi a0), (2, vi a1), (3, vi a2)] [] s (fun r => r = qI R) := by
  obtain ⟨d, rfl⟩ : ∃ d', d = d' + 1 := ⟨d - 1, by omega⟩
  unfold d_x2_meaningOf
  refine vLin 1 i21_0 rfl rfl ?_
  refine vK 2 i21_1 rfl ?_
  refine vCne 12 5 rfl (show w32 1 = 1 from rfl) i21_2 rfl rfl ?_ ?_
  · refine vLin 13 i21_12 rfl rfl ?_
    refine vK 14 i21_13 rfl ?_
    refine vCeq 24 17 rfl (show w32 2 = 2 from rfl) i21_14 rfl rfl ?_ ?_
    · refine vK 25 i21_24 rfl ?_
      refine vSi0 27 [(4, vi 0), (0, .ref 1), (1, vi a0), (2, vi a1), (3, vi a2)] i21_25 m21 (by decide) rfl rfl ?_
      refine vLin 28 i21_27 rfl rfl ?_
      refine vSi0 30 [(5, vi a1), (4, vi 0), (0, .ref 1), (1, vi a0), (2, vi a1), (3, vi a2)] i21_28 m21 (by decide) rfl rfl ?_
      exact fun hD => tLc [(0, .ref 1), (3, vi a2), (4, vi 0), (5, vi a1)] (xNdk [0, 3, 4, 5] rfl (by decide)) (xNdk [5, 4, 0, 1, 2, 3] rfl (by decide)) ⟨rfl, rfl, rfl, rfl, trivial⟩ (c_x2_meaningOf_30L N  hd  N s a2 0 a1 hD)
    · refine vLan 18 i21_17 rfl rfl ?_
      refine vGetC 21 i21_18 f21_24 sh_1 rfl rfl ?_
      refine vLin 22 i21_21 rfl rfl ?_
      refine vIal 23 rfl i21_22 sh_11 rfl ?_
      exact vRi i21_23 m21 rfl
  · refine vLan 6 i21_5 rfl rfl ?_
    refine vLin 7 i21_6 rfl rfl ?_
    refine vLin 8 i21_7 rfl rfl ?_
    refine vCallI 11 [.ref 1, vi a1, vi a2] [] [(0, .ref 1), (1, vi a1), (2, vi a2)] i21_8 rfl (xlk0 l21_141) (Or.inl rfl) m20 rfl rfl (Nat.le_of_ble_eq_true rfl) (Nat.le_of_ble_eq_true rfl) (Nat.le_of_ble_eq_true rfl) (xh0 sh_1 (by decide)) rfl rfl (fun R1 => c_x2_kindOfWord N   (by omega) s a1 a2) (fun s3 v4 => ?_)
    exact vRi i21_11 m21 rfl
theorem i30_42 : xIns xg 30 42 = some (.ldc 139) := by decide +kernel
theorem s30_139 : xStr xg 30 139 = some 0 := by decide +kernel
theorem sn30_139 : xCon xg 30 139 = none := by decide +kernel
theorem i30_44 : xIns xg 30 44 = some (.iload_n 0) := by decide +kernel
theorem i30_45 : xIns xg 30 45 = some (.i2c) := by decide +kernel
theorem i30_46 : xIns xg 30 46 = some (.invokevirtual 129) := by decide +kernel
theorem i30_49 : xIns xg 30 49 = some (.ifCond .lt 7) := by decide +kernel
theorem i30_56 : xIns xg 30 56 = some (.iconst 4) := by decide +kernel
theorem i30_57 : xIns xg 30 57 = some (.ireturn) := by decide +kernel
theorem m30 : (xMet xg 30).2.2 = (1, (some .int)) := by decide +kernel
theorem i30_52 : xIns xg 30 52 = some (.iconst 3) := by decide +kernel
theorem i30_53 : xIns xg 30 53 = some (.goto 4) := by decide +kernel
theorem i30_28 : xIns xg 30 28 = some (.iload_n 0) := by decide +kernel
theorem i30_29 : xIns xg 30 29 = some (.bipush 48) := by decide +kernel
theorem i30_31 : xIns xg 30 31 = some (.if_icmp .lt 11) := by decide +kernel
theorem i30_34 : xIns xg 30 34 = some (.iload_n 0) := by decide +kernel
theorem i30_35 : xIns xg 30 35 = some (.bipush 57) := by decide +kernel
theorem i30_37 : xIns xg 30 37 = some (.if_icmp .gt 5) := by decide +kernel
theorem i30_40 : xIns xg 30 40 = some (.iconst 2) := by decide +kernel
theorem i30_41 : xIns xg 30 41 = some (.ireturn) := by decide +kernel
theorem i30_0 : xIns xg 30 0 = some (.iload_n 0) := by decide +kernel
theorem i30_1 : xIns xg 30 1 = some (.bipush 32) := by decide +kernel
theorem i30_3 : xIns xg 30 3 = some (.if_icmp .eq 9) := by decide +kernel
theorem i30_12 : xIns xg 30 12 = some (.iconst 5) := by decide +kernel
theorem i30_13 : xIns xg 30 13 = some (.ireturn) := by decide +kernel
theorem i30_6 : xIns xg 30 6 = some (.iload_n 0) := by decide +kernel
theorem i30_7 : xIns xg 30 7 = some (.bipush 10) := by decide +kernel
theorem i30_9 : xIns xg 30 9 = some (.if_icmp .ne 5) := by decide +kernel
theorem i30_14 : xIns xg 30 14 = some (.iload_n 0) := by decide +kernel
theorem i30_15 : xIns xg 30 15 = some (.bipush 97) := by decide +kernel
theorem i30_17 : xIns xg 30 17 = some (.if_icmp .lt 11) := by decide +kernel
theorem i30_20 : xIns xg 30 20 = some (.iload_n 0) := by decide +kernel
theorem i30_21 : xIns xg 30 21 = some (.bipush 122) := by decide +kernel
theorem i30_23 : xIns xg 30 23 = some (.if_icmp .gt 5) := by decide +kernel
theorem i30_26 : xIns xg 30 26 = some (.iconst 1) := by decide +kernel
theorem i30_27 : xIns xg 30 27 = some (.ireturn) := by decide +kernel
def d_x2_sortOf_42 (N : Nat)  (s : St) (x0 : Int) : Option Rs :=
  if (2 * 0 + 1) % 2 = 1 ∧ (2 * 0 + 1) / 2 < 25 then bI (d_j0_indexOf_0f7a4 N  s (2 * 0 + 1) (c16 x0)) fun s1 v2 => (if (w32 v2) < 0 then some (s1, 4) else some (s1, 3)) else none
set_option maxHeartbeats 4000000 in
set_option maxRecDepth 100000 in
theorem c_x2_sortOf_42 {sc : xS} {d : Nat} {R : Rs} (N : Nat)  (hd : 4 ≤ d)   (s : St) (x0 : Int) : d_x2_sortOf_42 N  s x0 = some R → vT sc d 30 42 [(0, vi x0)] [] s (fun r => r = qI R) := by
  obtain ⟨d, rfl⟩ : ∃ d', d = d' + 1 := ⟨d - 1, by omega⟩
  unfold d_x2_sortOf_42
  refine vLdS 44 i30_42 sn30_139 s30_139 rfl ?_
  refine vLin 45 i30_44 rfl rfl ?_
  refine vI2c 46 i30_45 rfl ?_
  refine vX98 (e := (2 * 0 + 1)) (fun hx98 => ?_)
  refine vCallI 49 [.retAddr (2 * 0 + 1), vi (c16 x0)] [] [(0, .retAddr (2 * 0 + 1)), (1, vi (c16 x0))] i30_46 rfl (xlk0 l30_129) (Or.inl rfl) m201 rfl rfl (Nat.le_of_ble_eq_true rfl) (Nat.le_of_ble_eq_true rfl) (Nat.le_of_ble_eq_true rfl) (xh98 hx98) rfl rfl (fun R1 => c_j0_indexOf_0f7a4 N   (by omega) s (2 * 0 + 1) (c16 x0)) (fun s1 v2 => ?_)
  refine vZlt 56 52 rfl i30_49 rfl rfl ?_ ?_
  · refine vK 57 i30_56 rfl ?_
    exact vRi i30_57 m30 rfl
  · refine vK 53 i30_52 rfl ?_
    refine vGo 57 i30_53 rfl ?_
    exact vRi i30_57 m30 rfl
def d_x2_sortOf_28 (N : Nat)  (s : St) (x0 : Int) : Option Rs :=
  (if (w32 x0) < 48 then d_x2_sortOf_42 N  s x0 else (if 57 < (w32 x0) then d_x2_sortOf_42 N  s x0 else some (s, 2)))
set_option maxHeartbeats 4000000 in
set_option maxRecDepth 100000 in
theorem c_x2_sortOf_28 {sc : xS} {d : Nat} {R : Rs} (N : Nat)  (hd : 4 ≤ d)   (s : St) (x0 : Int) : d_x2_sortOf_28 N  s x0 = some R → vT sc d 30 28 [(0, vi x0)] [] s (fun r => r = qI R) := by
  obtain ⟨d, rfl⟩ : ∃ d', d = d' + 1 := ⟨d - 1, by omega⟩
  unfold d_x2_sortOf_28
  refine vLin 29 i30_28 rfl rfl ?_
  refine vKb 31 i30_29 (by decide) rfl ?_
  refine vClt 42 34 rfl (show w32 48 = 48 from rfl) i30_31 rfl rfl ?_ ?_
  · exact fun hD => c_x2_sortOf_42 N  hd  s x0 hD
  · refine vLin 35 i30_34 rfl rfl ?_
    refine vKb 37 i30_35 (by decide) rfl ?_
    refine vCgt 42 40 rfl (show w32 57 = 57 from rfl) i30_37 rfl rfl ?_ ?_
    · exact fun hD => c_x2_sortOf_42 N  hd  s x0 hD
    · refine vK 41 i30_40 rfl ?_
      exact vRi i30_41 m30 rfl
def d_x2_sortOf (N : Nat)  (s : St) (a0 : Int) : Option Rs :=
  (if (w32 a0) = 32 then some (s, 5) else (if (w32 a0) = 10 then some (s, 5) else (if (w32 a0) < 97 then d_x2_sortOf_28 N  s a0 else (if 122 < (w32 a0) then d_x2_sortOf_28 N  s a0 else some (s, 1)))))
set_option maxHeartbeats 4000000 in
set_option maxRecDepth 100000 in
theorem c_x2_sortOf {sc : xS} {d : Nat} {R : Rs} (N : Nat)  (hd : 4 ≤ d)   (s : St) (a0 : Int) : d_x2_sortOf N  s a0 = some R → vT sc d 30 0 [(0, vi a0)] [] s (fun r => r = qI R) := by
  obtain ⟨d, rfl⟩ : ∃ d', d = d' + 1 := ⟨d - 1, by omega⟩
  unfold d_x2_sortOf
  refine vLin 1 i30_0 rfl rfl ?_
  refine vKb 3 i30_1 (by decide) rfl ?_
  refine vCeq 12 6 rfl (show w32 32 = 32 from rfl) i30_3 rfl rfl ?_ ?_
  · refine vK 13 i30_12 rfl ?_
    exact vRi i30_13 m30 rfl
  · refine vLin 7 i30_6 rfl rfl ?_
    refine vKb 9 i30_7 (by decide) rfl ?_
    refine vCne 14 12 rfl (show w32 10 = 10 from rfl) i30_9 rfl rfl ?_ ?_
    · refine vLin 15 i30_14 rfl rfl ?_
      refine vKb 17 i30_15 (by decide) rfl ?_
      refine vClt 28 20 rfl (show w32 97 = 97 from rfl) i30_17 rfl rfl ?_ ?_
      · exact fun hD => c_x2_sortOf_28 N  hd  s a0 hD
      · refine vLin 21 i30_20 rfl rfl ?_
        refine vKb 23 i30_21 (by decide) rfl ?_
        refine vCgt 28 26 rfl (show w32 122 = 122 from rfl) i30_23 rfl rfl ?_ ?_
        · exact fun hD => c_x2_sortOf_28 N  hd  s a0 hD
        · refine vK 27 i30_26 rfl ?_
          exact vRi i30_27 m30 rfl
    · refine vK 13 i30_12 rfl ?_
      exact vRi i30_13 m30 rfl
theorem f31_20 : xFld xg 31 20 = some (1, 1) := by decide +kernel
theorem f31_28 : xFld xg 31 28 = some (1, 3) := by decide +kernel
theorem f31_31 : xFld xg 31 31 = some (1, 4) := by decide +kernel
theorem f31_34 : xFld xg 31 34 = some (1, 5) := by decide +kernel
theorem f31_24 : xFld xg 31 24 = some (1, 2) := by decide +kernel
theorem i31_143 : xIns xg 31 143 = some (.iload_n 2) := by decide +kernel
theorem i31_144 : xIns xg 31 144 = some (.istore_n 3) := by decide +kernel
theorem m31 : (xMet xg 31).2.2 = (6, none) := by decide +kernel
theorem i31_145 : xIns xg 31 145 = some (.goto (-139)) := by decide +kernel
theorem i31_121 : xIns xg 31 121 = some (.iastore) := by decide +kernel
theorem i31_122 : xIns xg 31 122 = some (.aload_n 0) := by decide +kernel
theorem i31_123 : xIns xg 31 123 = some (.getfield 34) := by decide +kernel
theorem i31_126 : xIns xg 31 126 = some (.iload_n 1) := by decide +kernel
theorem i31_127 : xIns xg 31 127 = some (.aload_n 0) := by decide +kernel
theorem i31_128 : xIns xg 31 128 = some (.aload_n 0) := by decide +kernel
theorem i31_129 : xIns xg 31 129 = some (.getfield 31) := by decide +kernel
theorem i31_132 : xIns xg 31 132 = some (.iload_n 1) := by decide +kernel
theorem i31_133 : xIns xg 31 133 = some (.iaload) := by decide +kernel
theorem i31_134 : xIns xg 31 134 = some (.iload_n 3) := by decide +kernel
theorem i31_135 : xIns xg 31 135 = some (.iload_n 2) := by decide +kernel
theorem i31_136 : xIns xg 31 136 = some (.invokevirtual 135) := by decide +kernel
theorem i31_139 : xIns xg 31 139 = some (.iastore) := by decide +kernel
theorem i31_140 : xIns xg 31 140 = some (.iinc 1 1) := by decide +kernel
theorem i31_119 : xIns xg 31 119 = some (.iload 4) := by decide +kernel
theorem i31_81 : xIns xg 31 81 = some (.iload 4) := by decide +kernel
theorem i31_83 : xIns xg 31 83 = some (.iconst 5) := by decide +kernel
theorem i31_84 : xIns xg 31 84 = some (.if_icmp .ne 6) := by decide +kernel
theorem i31_90 : xIns xg 31 90 = some (.aload_n 0) := by decide +kernel
theorem i31_91 : xIns xg 31 91 = some (.getfield 28) := by decide +kernel
theorem i31_94 : xIns xg 31 94 = some (.iload_n 1) := by decide +kernel
theorem i31_95 : xIns xg 31 95 = some (.iload_n 3) := by decide +kernel
theorem i31_96 : xIns xg 31 96 = some (.iastore) := by decide +kernel
theorem i31_97 : xIns xg 31 97 = some (.aload_n 0) := by decide +kernel
theorem i31_98 : xIns xg 31 98 = some (.getfield 31) := by decide +kernel
theorem i31_101 : xIns xg 31 101 = some (.iload_n 1) := by decide +kernel
theorem i31_102 : xIns xg 31 102 = some (.iload 4) := by decide +kernel
theorem i31_104 : xIns xg 31 104 = some (.iconst 2) := by decide +kernel
theorem i31_105 : xIns xg 31 105 = some (.if_icmp .ne 14) := by decide +kernel
theorem i31_108 : xIns xg 31 108 = some (.iload_n 2) := by decide +kernel
theorem i31_109 : xIns xg 31 109 = some (.iload_n 3) := by decide +kernel
theorem i31_110 : xIns xg 31 110 = some (.isub) := by decide +kernel
theorem i31_111 : xIns xg 31 111 = some (.iconst 4) := by decide +kernel
theorem i31_112 : xIns xg 31 112 = some (.if_icmp .le 7) := by decide +kernel
theorem i31_115 : xIns xg 31 115 = some (.iconst 4) := by decide +kernel
theorem i31_116 : xIns xg 31 116 = some (.goto 5) := by decide +kernel
theorem i31_87 : xIns xg 31 87 = some (.goto 56) := by decide +kernel
theorem i31_48 : xIns xg 31 48 = some (.iload 5) := by decide +kernel
theorem i31_50 : xIns xg 31 50 = some (.ifCond .eq 31) := by decide +kernel
theorem i31_53 : xIns xg 31 53 = some (.iload_n 2) := by decide +kernel
theorem i31_54 : xIns xg 31 54 = some (.aload_n 0) := by decide +kernel
theorem i31_55 : xIns xg 31 55 = some (.getfield 20) := by decide +kernel
theorem i31_58 : xIns xg 31 58 = some (.if_icmp .ge 23) := by decide +kernel
theorem i31_61 : xIns xg 31 61 = some (.aload_n 0) := by decide +kernel
theorem i31_62 : xIns xg 31 62 = some (.getfield 24) := by decide +kernel
theorem i31_65 : xIns xg 31 65 = some (.iload_n 2) := by decide +kernel
theorem i31_66 : xIns xg 31 66 = some (.iaload) := by decide +kernel
theorem i31_67 : xIns xg 31 67 = some (.invokestatic 132) := by decide +kernel
theorem i31_70 : xIns xg 31 70 = some (.iload 4) := by decide +kernel
theorem i31_72 : xIns xg 31 72 = some (.if_icmp .ne 9) := by decide +kernel
theorem i31_75 : xIns xg 31 75 = some (.iinc 2 1) := by decide +kernel
theorem i31_78 : xIns xg 31 78 = some (.goto (-30)) := by decide +kernel
theorem i31_42 : xIns xg 31 42 = some (.istore 5) := by decide +kernel
theorem i31_44 : xIns xg 31 44 = some (.iload_n 3) := by decide +kernel
theorem i31_45 : xIns xg 31 45 = some (.iconst 1) := by decide +kernel
theorem i31_46 : xIns xg 31 46 = some (.iadd) := by decide +kernel
theorem i31_47 : xIns xg 31 47 = some (.istore_n 2) := by decide +kernel
theorem i31_37 : xIns xg 31 37 = some (.iconst 1) := by decide +kernel
theorem i31_38 : xIns xg 31 38 = some (.goto 4) := by decide +kernel
theorem i31_6 : xIns xg 31 6 = some (.iload_n 3) := by decide +kernel
theorem i31_7 : xIns xg 31 7 = some (.aload_n 0) := by decide +kernel
theorem i31_8 : xIns xg 31 8 = some (.getfield 20) := by decide +kernel
theorem i31_11 : xIns xg 31 11 = some (.if_icmp .ge 137) := by decide +kernel
theorem i31_148 : xIns xg 31 148 = some (.aload_n 0) := by decide +kernel
theorem i31_149 : xIns xg 31 149 = some (.getfield 28) := by decide +kernel
theorem i31_152 : xIns xg 31 152 = some (.iload_n 1) := by decide +kernel
theorem i31_153 : xIns xg 31 153 = some (.aload_n 0) := by decide +kernel
theorem i31_154 : xIns xg 31 154 = some (.getfield 20) := by decide +kernel
theorem i31_157 : xIns xg 31 157 = some (.iastore) := by decide +kernel
theorem i31_158 : xIns xg 31 158 = some (.aload_n 0) := by decide +kernel
theorem i31_159 : xIns xg 31 159 = some (.getfield 31) := by decide +kernel
theorem i31_162 : xIns xg 31 162 = some (.iload_n 1) := by decide +kernel
theorem i31_163 : xIns xg 31 163 = some (.iconst 0) := by decide +kernel
theorem i31_164 : xIns xg 31 164 = some (.iastore) := by decide +kernel
theorem i31_165 : xIns xg 31 165 = some (.aload_n 0) := by decide +kernel
theorem i31_166 : xIns xg 31 166 = some (.getfield 34) := by decide +kernel
theorem i31_169 : xIns xg 31 169 = some (.iload_n 1) := by decide +kernel
theorem i31_170 : xIns xg 31 170 = some (.iconst 0) := by decide +kernel
theorem i31_171 : xIns xg 31 171 = some (.iastore) := by decide +kernel
theorem i31_172 : xIns xg 31 172 = some (.return_) := by decide +kernel
theorem i31_14 : xIns xg 31 14 = some (.aload_n 0) := by decide +kernel
theorem i31_15 : xIns xg 31 15 = some (.getfield 24) := by decide +kernel
theorem i31_18 : xIns xg 31 18 = some (.iload_n 3) := by decide +kernel
theorem i31_19 : xIns xg 31 19 = some (.iaload) := by decide +kernel
theorem i31_20 : xIns xg 31 20 = some (.invokestatic 132) := by decide +kernel
theorem i31_23 : xIns xg 31 23 = some (.istore 4) := by decide +kernel
theorem i31_25 : xIns xg 31 25 = some (.iload 4) := by decide +kernel
theorem i31_27 : xIns xg 31 27 = some (.iconst 1) := by decide +kernel
theorem i31_28 : xIns xg 31 28 = some (.if_icmp .eq 9) := by decide +kernel
theorem i31_31 : xIns xg 31 31 = some (.iload 4) := by decide +kernel
theorem i31_33 : xIns xg 31 33 = some (.iconst 2) := by decide +kernel
theorem i31_34 : xIns xg 31 34 = some (.if_icmp .ne 7) := by decide +kernel
theorem i31_41 : xIns xg 31 41 = some (.iconst 0) := by decide +kernel
theorem i31_0 : xIns xg 31 0 = some (.iconst 0) := by decide +kernel
theorem i31_1 : xIns xg 31 1 = some (.istore_n 1) := by decide +kernel
theorem i31_2 : xIns xg 31 2 = some (.iconst 0) := by decide +kernel
theorem i31_3 : xIns xg 31 3 = some (.istore_n 2) := by decide +kernel
theorem i31_4 : xIns xg 31 4 = some (.iconst 0) := by decide +kernel
theorem i31_5 : xIns xg 31 5 = some (.istore_n 3) := by decide +kernel
def d_x2_splitTape_143 (N : Nat) (k6 : St → Int → Int → Option Rs) (s : St) (x1 : Int) (x2 : Int) : Option Rs :=
  k6 s x1 x2
set_option maxHeartbeats 4000000 in
set_option maxRecDepth 100000 in
theorem c_x2_splitTape_143 {sc : xS} {d : Nat} {R : Rs} (N : Nat)  (hd : 7 ≤ d) (k6 : St → Int → Int → Option Rs) (hk6 : ∀ (s : St) (x1 : Int) (x3 : Int), k6 s x1 x3 = some R → vT sc d 31 6 [(0, .ref 1), (1, vi x1), (3, vi x3)] [] s (fun r => r = qV R))  (s : St) (x1 : Int) (x2 : Int) : d_x2_splitTape_143 N k6 s x1 x2 = some R → vT sc d 31 143 [(0, .ref 1), (1, vi x1), (2, vi x2)] [] s (fun r => r = qV R) := by
  obtain ⟨d, rfl⟩ : ∃ d', d = d' + 1 := ⟨d - 1, by omega⟩
  unfold d_x2_splitTape_143
  refine vLin 144 i31_143 rfl rfl ?_
  refine vSin0 145 [(3, vi x2), (0, .ref 1), (1, vi x1), (2, vi x2)] i31_144 m31 (by decide) rfl rfl ?_
  refine vGo 6 i31_145 rfl ?_
  exact fun hD => tLc [(0, .ref 1), (1, vi x1), (3, vi x2)] (xNdk [0, 1, 3] rfl (by decide)) (xNdk [3, 0, 1, 2] rfl (by decide)) ⟨rfl, rfl, rfl, trivial⟩ (hk6 s x1 x2 hD)
def d_x2_splitTape_121 (N : Nat) (k6 : St → Int → Int → Option Rs) (s : St) (x1 : Int) (x2 : Int) (x3 : Int) (z0 : Int) (z1 : Int) : Option Rs :=
  if 0 ≤ (w32 z1) ∧ (w32 z1) < ((121 : Nat) : Int) then bd (up s 13 (Int.toNat (w32 z1)) z0) fun s1 => if 0 ≤ (w32 x1) ∧ (w32 x1) < ((121 : Nat) : Int) then bI (d_x2_meaningOf N  s1 (s1 13 (Int.toNat (w32 x1))) x3 x2) fun s2 v3 => if 0 ≤ (w32 x1) ∧ (w32 x1) < ((121 : Nat) : Int) then bd (up s2 14 (Int.toNat (w32 x1)) v3) fun s4 => bd (x1 + 1) fun v5 => d_x2_splitTape_143 N k6 s4 v5 x2 else none else none else none
set_option maxHeartbeats 4000000 in
set_option maxRecDepth 100000 in
theorem c_x2_splitTape_121 {sc : xS} {d : Nat} {R : Rs} (N : Nat)  (hd : 7 ≤ d) (k6 : St → Int → Int → Option Rs) (hk6 : ∀ (s : St) (x1 : Int) (x3 : Int), k6 s x1 x3 = some R → vT sc d 31 6 [(0, .ref 1), (1, vi x1), (3, vi x3)] [] s (fun r => r = qV R))  (s : St) (x1 : Int) (x2 : Int) (x3 : Int) (z0 : Int) (z1 : Int) : d_x2_splitTape_121 N k6 s x1 x2 x3 z0 z1 = some R → vT sc d 31 121 [(0, .ref 1), (1, vi x1), (2, vi x2), (3, vi x3)] [vi z0, vi z1, .ref 13] s (fun r => r = qV R) := by
  obtain ⟨d, rfl⟩ : ∃ d', d = d' + 1 := ⟨d - 1, by omega⟩
  unfold d_x2_splitTape_121
  refine vIas 122 rfl i31_121 sh_13 rfl (fun s1 => ?_)
  refine vLan 123 i31_122 rfl rfl ?_
  refine vGetC 126 i31_123 f31_34 sh_1 rfl rfl ?_
  refine vLin 127 i31_126 rfl rfl ?_
  refine vLan 128 i31_127 rfl rfl ?_
  refine vLan 129 i31_128 rfl rfl ?_
  refine vGetC 132 i31_129 f31_31 sh_1 rfl rfl ?_
  refine vLin 133 i31_132 rfl rfl ?_
  refine vIal 134 rfl i31_133 sh_13 rfl ?_
  refine vLin 135 i31_134 rfl rfl ?_
  refine vLin 136 i31_135 rfl rfl ?_
  refine vCallI 139 [.ref 1, vi (s1 13 (Int.toNat (w32 x1))), vi x3, vi x2] [vi x1, .ref 14] [(0, .ref 1), (1, vi (s1 13 (Int.toNat (w32 x1)))), (2, vi x3), (3, vi x2)] i31_136 rfl (xlk0 l31_135) (Or.inl rfl) m21 rfl rfl (Nat.le_of_ble_eq_true rfl) (Nat.le_of_ble_eq_true rfl) (Nat.le_of_ble_eq_true rfl) (xh0 sh_1 (by decide)) rfl rfl (fun R1 => c_x2_meaningOf N   (by omega) s1 (s1 13 (Int.toNat (w32 x1))) x3 x2) (fun s2 v3 => ?_)
  refine vIas 140 rfl i31_139 sh_14 rfl (fun s4 => ?_)
  refine vInc 143 (fun v5 => [(1, vi v5), (0, .ref 1), (2, vi x2), (3, vi x3)]) i31_140 m31 (by decide) rfl (fun _ => rfl) rfl (fun v5 => ?_)
  exact fun hD => tLc [(0, .ref 1), (1, vi v5), (2, vi x2)] (xNdk [0, 1, 2] rfl (by decide)) (xNdk [1, 0, 2, 3] rfl (by decide)) ⟨rfl, rfl, rfl, trivial⟩ (c_x2_splitTape_143 N  hd k6 hk6 s4 v5 x2 hD)
def d_x2_splitTape_119 (N : Nat) (k6 : St → Int → Int → Option Rs) (s : St) (x1 : Int) (x2 : Int) (x3 : Int) (x4 : Int) (z0 : Int) : Option Rs :=
  d_x2_splitTape_121 N k6 s x1 x2 x3 x4 z0
set_option maxHeartbeats 4000000 in
set_option maxRecDepth 100000 in
theorem c_x2_splitTape_119 {sc : xS} {d : Nat} {R : Rs} (N : Nat)  (hd : 7 ≤ d) (k6 : St → Int → Int → Option Rs) (hk6 : ∀ (s : St) (x1 : Int) (x3 : Int), k6 s x1 x3 = some R → vT sc d 31 6 [(0, .ref 1), (1, vi x1), (3, vi x3)] [] s (fun r => r = qV R))  (s : St) (x1 : Int) (x2 : Int) (x3 : Int) (x4 : Int) (z0 : Int) : d_x2_splitTape_119 N k6 s x1 x2 x3 x4 z0 = some R → vT sc d 31 119 [(0, .ref 1), (1, vi x1), (2, vi x2), (3, vi x3), (4, vi x4)] [vi z0, .ref 13] s (fun r => r = qV R) := by
  obtain ⟨d, rfl⟩ : ∃ d', d = d' + 1 := ⟨d - 1, by omega⟩
  unfold d_x2_splitTape_119
  refine vLi 121 i31_119 rfl rfl ?_
  exact fun hD => tLc [(0, .ref 1), (1, vi x1), (2, vi x2), (3, vi x3)] (xNdk [0, 1, 2, 3] rfl (by decide)) (xNdk [0, 1, 2, 3, 4] rfl (by decide)) ⟨rfl, rfl, rfl, rfl, trivial⟩ (c_x2_splitTape_121 N  hd k6 hk6 s x1 x2 x3 x4 z0 hD)
def d_x2_splitTape_81 (N : Nat) (k6 : St → Int → Int → Option Rs) (s : St) (x1 : Int) (x2 : Int) (x3 : Int) (x4 : Int) : Option Rs :=
  (if (w32 x4) = 5 then d_x2_splitTape_143 N k6 s x1 x2 else if 0 ≤ (w32 x1) ∧ (w32 x1) < ((121 : Nat) : Int) then bd (up s 12 (Int.toNat (w32 x1)) x3) fun s6 => (if (w32 x4) = 2 then (if 4 < (w32 (x2 - x3)) then d_x2_splitTape_121 N k6 s6 x1 x2 x3 4 x1 else d_x2_splitTape_119 N k6 s6 x1 x2 x3 x4 x1) else d_x2_splitTape_119 N k6 s6 x1 x2 x3 x4 x1) else none)
set_option maxHeartbeats 4000000 in
set_option maxRecDepth 100000 in
theorem c_x2_splitTape_81 {sc : xS} {d : Nat} {R : Rs} (N : Nat)  (hd : 7 ≤ d) (k6 : St → Int → Int → Option Rs) (hk6 : ∀ (s : St) (x1 : Int) (x3 : Int), k6 s x1 x3 = some R → vT sc d 31 6 [(0, .ref 1), (1, vi x1), (3, vi x3)] [] s (fun r => r = qV R))  (s : St) (x1 : Int) (x2 : Int) (x3 : Int) (x4 : Int) : d_x2_splitTape_81 N k6 s x1 x2 x3 x4 = some R → vT sc d 31 81 [(0, .ref 1), (1, vi x1), (2, vi x2), (3, vi x3), (4, vi x4)] [] s (fun r => r = qV R) := by
  obtain ⟨d, rfl⟩ : ∃ d', d = d' + 1 := ⟨d - 1, by omega⟩
  unfold d_x2_splitTape_81
  refine vLi 83 i31_81 rfl rfl ?_
  refine vK 84 i31_83 rfl ?_
  refine vCne 90 87 rfl (show w32 5 = 5 from rfl) i31_84 rfl rfl ?_ ?_
  · refine vLan 91 i31_90 rfl rfl ?_
    refine vGetC 94 i31_91 f31_28 sh_1 rfl rfl ?_
    refine vLin 95 i31_94 rfl rfl ?_
    refine vLin 96 i31_95 rfl rfl ?_
    refine vIas 97 rfl i31_96 sh_12 rfl (fun s6 => ?_)
    refine vLan 98 i31_97 rfl rfl ?_
    refine vGetC 101 i31_98 f31_31 sh_1 rfl rfl ?_
    refine vLin 102 i31_101 rfl rfl ?_
    refine vLi 104 i31_102 rfl rfl ?_
    refine vK 105 i31_104 rfl ?_
    refine vCne 119 108 rfl (show w32 2 = 2 from rfl) i31_105 rfl rfl ?_ ?_
    · exact fun hD => c_x2_splitTape_119 N  hd k6 hk6 s6 x1 x2 x3 x4 x1 hD
    · refine vLin 109 i31_108 rfl rfl ?_
      refine vLin 110 i31_109 rfl rfl ?_
      refine vIsub 111 i31_110 rfl ?_
      refine vK 112 i31_111 rfl ?_
      refine vCle 119 115 rfl (show w32 4 = 4 from rfl) i31_112 rfl rfl ?_ ?_
      · exact fun hD => c_x2_splitTape_119 N  hd k6 hk6 s6 x1 x2 x3 x4 x1 hD
      · refine vK 116 i31_115 rfl ?_
        refine vGo 121 i31_116 rfl ?_
        exact fun hD => tLc [(0, .ref 1), (1, vi x1), (2, vi x2), (3, vi x3)] (xNdk [0, 1, 2, 3] rfl (by decide)) (xNdk [0, 1, 2, 3, 4] rfl (by decide)) ⟨rfl, rfl, rfl, rfl, trivial⟩ (c_x2_splitTape_121 N  hd k6 hk6 s6 x1 x2 x3 4 x1 hD)
  · refine vGo 143 i31_87 rfl ?_
    exact fun hD => tLc [(0, .ref 1), (1, vi x1), (2, vi x2)] (xNdk [0, 1, 2] rfl (by decide)) (xNdk [0, 1, 2, 3, 4] rfl (by decide)) ⟨rfl, rfl, rfl, trivial⟩ (c_x2_splitTape_143 N  hd k6 hk6 s x1 x2 hD)
def d_x2_splitTape_48 (N : Nat) (k6 : St → Int → Int → Option Rs) (k48 : St → Int → Int → Int → Int → Int → Option Rs) (s : St) (x1 : Int) (x2 : Int) (x3 : Int) (x4 : Int) (x5 : Int) : Option Rs :=
  (if (w32 x5) = 0 then d_x2_splitTape_81 N k6 s x1 x2 x3 x4 else (if (w32 x2) < (w32 (s 1 1)) then if 0 ≤ (w32 x2) ∧ (w32 x2) < ((120 : Nat) : Int) then bI (d_x2_sortOf N  s (s 11 (Int.toNat (w32 x2)))) fun s7 v8 => (if (w32 v8) = (w32 x4) then bd (x2 + 1) fun v9 => k48 s7 x1 v9 x3 x4 x5 else d_x2_splitTape_81 N k6 s7 x1 x2 x3 x4) else none else d_x2_splitTape_81 N k6 s x1 x2 x3 x4))
def d_x2_splitTape_48L (N : Nat) (k6 : St → Int → Int → Option Rs) : Nat → St → Int → Int → Int → Int → Int → Option Rs
  | 0 => fun _ _ _ _ _ _ => none
  | n + 1 => d_x2_splitTape_48 N k6 (d_x2_splitTape_48L N k6 n)
set_option maxHeartbeats 4000000 in
set_option maxRecDepth 100000 in
theorem c_x2_splitTape_48 {sc : xS} {d : Nat} {R : Rs} (N : Nat)  (hd : 7 ≤ d) (k6 : St → Int → Int → Option Rs) (hk6 : ∀ (s : St) (x1 : Int) (x3 : Int), k6 s x1 x3 = some R → vT sc d 31 6 [(0, .ref 1), (1, vi x1), (3, vi x3)] [] s (fun r => r = qV R))  (k48 : St → Int → Int → Int → Int → Int → Option Rs) (hk48 : ∀ (s : St) (x1 : Int) (x2 : Int) (x3 : Int) (x4 : Int) (x5 : Int), k48 s x1 x2 x3 x4 x5 = some R → vT sc d 31 48 [(0, .ref 1), (1, vi x1), (2, vi x2), (3, vi x3), (4, vi x4), (5, vi x5)] [] s (fun r => r = qV R)) (s : St) (x1 : Int) (x2 : Int) (x3 : Int) (x4 : Int) (x5 : Int) : d_x2_splitTape_48 N k6 k48 s x1 x2 x3 x4 x5 = some R → vT sc d 31 48 [(0, .ref 1), (1, vi x1), (2, vi x2), (3, vi x3), (4, vi x4), (5, vi x5)] [] s (fun r => r = qV R) := by
  obtain ⟨d, rfl⟩ : ∃ d', d = d' + 1 := ⟨d - 1, by omega⟩
  unfold d_x2_splitTape_48
  refine vLi 50 i31_48 rfl rfl ?_
  refine vZeq 81 53 rfl i31_50 rfl rfl ?_ ?_
  · exact fun hD => tLc [(0, .ref 1), (1, vi x1), (2, vi x2), (3, vi x3), (4, vi x4)] (xNdk [0, 1, 2, 3, 4] rfl (by decide)) (xNdk [0, 1, 2, 3, 4, 5] rfl (by decide)) ⟨rfl, rfl, rfl, rfl, rfl, trivial⟩ (c_x2_splitTape_81 N  hd k6 hk6 s x1 x2 x3 x4 hD)
  · refine vLin 54 i31_53 rfl rfl ?_
    refine vLan 55 i31_54 rfl rfl ?_
    refine vGet 58 i31_55 f31_20 sh_1 rfl rfl ?_
    refine vCge 81 61 rfl rfl i31_58 rfl rfl ?_ ?_
    · exact fun hD => tLc [(0, .ref 1), (1, vi x1), (2, vi x2), (3, vi x3), (4, vi x4)] (xNdk [0, 1, 2, 3, 4] rfl (by decide)) (xNdk [0, 1, 2, 3, 4, 5] rfl (by decide)) ⟨rfl, rfl, rfl, rfl, rfl, trivial⟩ (c_x2_splitTape_81 N  hd k6 hk6 s x1 x2 x3 x4 hD)
    · refine vLan 62 i31_61 rfl rfl ?_
      refine vGetC 65 i31_62 f31_24 sh_1 rfl rfl ?_
      refine vLin 66 i31_65 rfl rfl ?_
      refine vIal 67 rfl i31_66 sh_11 rfl ?_
      refine vCallI 70 [vi (s 11 (Int.toNat (w32 x2)))] [] [(0, vi (s 11 (Int.toNat (w32 x2))))] i31_67 rfl (xlk1 l31_132) (Or.inr (Or.inl rfl)) m30 rfl rfl (Nat.le_of_ble_eq_true rfl) (Nat.le_of_ble_eq_true rfl) (Nat.le_of_ble_eq_true rfl) rfl rfl rfl (fun R1 => c_x2_sortOf N   (by omega) s (s 11 (Int.toNat (w32 x2)))) (fun s7 v8 => ?_)
      refine vLi 72 i31_70 rfl rfl ?_
      refine vCne 81 75 rfl rfl i31_72 rfl rfl ?_ ?_
      · exact fun hD => tLc [(0, .ref 1), (1, vi x1), (2, vi x2), (3, vi x3), (4, vi x4)] (xNdk [0, 1, 2, 3, 4] rfl (by decide)) (xNdk [0, 1, 2, 3, 4, 5] rfl (by decide)) ⟨rfl, rfl, rfl, rfl, rfl, trivial⟩ (c_x2_splitTape_81 N  hd k6 hk6 s7 x1 x2 x3 x4 hD)
      · refine vInc 78 (fun v9 => [(2, vi v9), (0, .ref 1), (1, vi x1), (3, vi x3), (4, vi x4), (5, vi x5)]) i31_75 m31 (by decide) rfl (fun _ => rfl) rfl (fun v9 => ?_)
        refine vGo 48 i31_78 rfl ?_
        exact fun hD => tLc [(0, .ref 1), (1, vi x1), (2, vi v9), (3, vi x3), (4, vi x4), (5, vi x5)] (xNdk [0, 1, 2, 3, 4, 5] rfl (by decide)) (xNdk [2, 0, 1, 3, 4, 5] rfl (by decide)) ⟨rfl, rfl, rfl, rfl, rfl, rfl, trivial⟩ (hk48 s7 x1 v9 x3 x4 x5 hD)
theorem c_x2_splitTape_48L {sc : xS} {d : Nat} {R : Rs} (N : Nat)  (hd : 7 ≤ d) (k6 : St → Int → Int → Option Rs) (hk6 : ∀ (s : St) (x1 : Int) (x3 : Int), k6 s x1 x3 = some R → vT sc d 31 6 [(0, .ref 1), (1, vi x1), (3, vi x3)] [] s (fun r => r = qV R))  : ∀ (n : Nat) (s : St) (x1 : Int) (x2 : Int) (x3 : Int) (x4 : Int) (x5 : Int), d_x2_splitTape_48L N k6 n s x1 x2 x3 x4 x5 = some R → vT sc d 31 48 [(0, .ref 1), (1, vi x1), (2, vi x2), (3, vi x3), (4, vi x4), (5, vi x5)] [] s (fun r => r = qV R) := by
  intro n
  induction n with
  | zero => intro s x1 x2 x3 x4 x5 hD; cases hD
  | succ n ih => intro s x1 x2 x3 x4 x5 hD; exact c_x2_splitTape_48 N  hd k6 hk6 _ ih s x1 x2 x3 x4 x5 hD
def d_x2_splitTape_42 (N : Nat) (k6 : St → Int → Int → Option Rs) (s : St) (x1 : Int) (x3 : Int) (x4 : Int) (z0 : Int) : Option Rs :=
  bd (x3 + 1) fun v10 => d_x2_splitTape_48L N k6 N s x1 v10 x3 x4 z0
set_option maxHeartbeats 4000000 in
set_option maxRecDepth 100000 in
theorem c_x2_splitTape_42 {sc : xS} {d : Nat} {R : Rs} (N : Nat)  (hd : 7 ≤ d) (k6 : St → Int → Int → Option Rs) (hk6 : ∀ (s : St) (x1 : Int) (x3 : Int), k6 s x1 x3 = some R → vT sc d 31 6 [(0, .ref 1), (1, vi x1), (3, vi x3)] [] s (fun r => r = qV R))  (s : St) (x1 : Int) (x3 : Int) (x4 : Int) (z0 : Int) : d_x2_splitTape_42 N k6 s x1 x3 x4 z0 = some R → vT sc d 31 42 [(0, .ref 1), (1, vi x1), (3, vi x3), (4, vi x4)] [vi z0] s (fun r => r = qV R) := by
  obtain ⟨d, rfl⟩ : ∃ d', d = d' + 1 := ⟨d - 1, by omega⟩
  unfold d_x2_splitTape_42
  refine vSi0 44 [(5, vi z0), (0, .ref 1), (1, vi x1), (3, vi x3), (4, vi x4)] i31_42 m31 (by decide) rfl rfl ?_
  refine vLin 45 i31_44 rfl rfl ?_
  refine vK 46 i31_45 rfl ?_
  refine vIadd 47 i31_46 rfl ?_
  refine vSin 48 (fun v10 => [(2, vi v10), (5, vi z0), (0, .ref 1), (1, vi x1), (3, vi x3), (4, vi x4)]) i31_47 m31 (by decide) (fun v10 => (rfl : xst1 [(5, vi z0), (0, .ref 1), (1, vi x1), (3, vi x3), (4, vi x4)] 2 (vi v10) = [(2, vi v10), (5, vi z0), (0, .ref 1), (1, vi x1), (3, vi x3), (4, vi x4)])) rfl (fun v10 => ?_)
  exact fun hD => tLc [(0, .ref 1), (1, vi x1), (2, vi v10), (3, vi x3), (4, vi x4), (5, vi z0)] (xNdk [0, 1, 2, 3, 4, 5] rfl (by decide)) (xNdk [2, 5, 0, 1, 3, 4] rfl (by decide)) ⟨rfl, rfl, rfl, rfl, rfl, rfl, trivial⟩ (c_x2_splitTape_48L N  hd k6 hk6 N s x1 v10 x3 x4 z0 hD)
def d_x2_splitTape_37 (N : Nat) (k6 : St → Int → Int → Option Rs) (s : St) (x1 : Int) (x3 : Int) (x4 : Int) : Option Rs :=
  d_x2_splitTape_42 N k6 s x1 x3 x4 1
set_option maxHeartbeats 4000000 in
set_option maxRecDepth 100000 in
theorem c_x2_splitTape_37 {sc : xS} {d : Nat} {R : Rs} (N : Nat)  (hd : 7 ≤ d) (k6 : St → Int → Int → Option Rs) (hk6 : ∀ (s : St) (x1 : Int) (x3 : Int), k6 s x1 x3 = some R → vT sc d 31 6 [(0, .ref 1), (1, vi x1), (3, vi x3)] [] s (fun r => r = qV R))  (s : St) (x1 : Int) (x3 : Int) (x4 : Int) : d_x2_splitTape_37 N k6 s x1 x3 x4 = some R → vT sc d 31 37 [(0, .ref 1), (1, vi x1), (3, vi x3), (4, vi x4)] [] s (fun r => r = qV R) := by
  obtain ⟨d, rfl⟩ : ∃ d', d = d' + 1 := ⟨d - 1, by omega⟩
  unfold d_x2_splitTape_37
  refine vK 38 i31_37 rfl ?_
  refine vGo 42 i31_38 rfl ?_
  exact fun hD => c_x2_splitTape_42 N  hd k6 hk6 s x1 x3 x4 1 hD
def d_x2_splitTape_6 (N : Nat)  (k6 : St → Int → Int → Option Rs) (s : St) (x1 : Int) (x3 : Int) : Option Rs :=
  (if (w32 x3) < (w32 (s 1 1)) then if 0 ≤ (w32 x3) ∧ (w32 x3) < ((120 : Nat) : Int) then bI (d_x2_sortOf N  s (s 11 (Int.toNat (w32 x3)))) fun s14 v15 => (if (w32 v15) = 1 then d_x2_splitTape_37 N k6 s14 x1 x3 v15 else (if (w32 v15) = 2 then d_x2_splitTape_37 N k6 s14 x1 x3 v15 else d_x2_splitTape_42 N k6 s14 x1 x3 v15 0)) else none else if 0 ≤ (w32 x1) ∧ (w32 x1) < ((121 : Nat) : Int) then bd (up s 12 (Int.toNat (w32 x1)) (s 1 1)) fun s11 => if 0 ≤ (w32 x1) ∧ (w32 x1) < ((121 : Nat) : Int) then bd (up s11 13 (Int.toNat (w32 x1)) 0) fun s12 => if 0 ≤ (w32 x1) ∧ (w32 x1) < ((121 : Nat) : Int) then bd (up s12 14 (Int.toNat (w32 x1)) 0) fun s13 => some (s13, 0) else none else none else none)
def d_x2_splitTape_6L (N : Nat)  : Nat → St → Int → Int → Option Rs
  | 0 => fun _ _ _ => none
  | n + 1 => d_x2_splitTape_6 N  (d_x2_splitTape_6L N  n)
set_option maxHeartbeats 4000000 in
set_option maxRecDepth 100000 in
theorem c_x2_splitTape_6 {sc : xS} {d : Nat} {R : Rs} (N : Nat)  (hd : 7 ≤ d)   (k6 : St → Int → Int → Option Rs) (hk6 : ∀ (s : St) (x1 : Int) (x3 : Int), k6 s x1 x3 = some R → vT sc d 31 6 [(0, .ref 1), (1, vi x1), (3, vi x3)] [] s (fun r => r = qV R)) (s : St) (x1 : Int) (x3 : Int) : d_x2_splitTape_6 N  k6 s x1 x3 = some R → vT sc d 31 6 [(0, .ref 1), (1, vi x1), (3, vi x3)] [] s (fun r => r = qV R) := by
  obtain ⟨d, rfl⟩ : ∃ d', d = d' + 1 := ⟨d - 1, by omega⟩
  unfold d_x2_splitTape_6
  refine vLin 7 i31_6 rfl rfl ?_
  refine vLan 8 i31_7 rfl rfl ?_
  refine vGet 11 i31_8 f31_20 sh_1 rfl rfl ?_
  refine vCge 148 14 rfl rfl i31_11 rfl rfl ?_ ?_
  · refine vLan 149 i31_148 rfl rfl ?_
    refine vGetC 152 i31_149 f31_28 sh_1 rfl rfl ?_
    refine vLin 153 i31_152 rfl rfl ?_
    refine vLan 154 i31_153 rfl rfl ?_
    refine vGet 157 i31_154 f31_20 sh_1 rfl rfl ?_
    refine vIas 158 rfl i31_157 sh_12 rfl (fun s11 => ?_)
    refine vLan 159 i31_158 rfl rfl ?_
    refine vGetC 162 i31_159 f31_31 sh_1 rfl rfl ?_
    refine vLin 163 i31_162 rfl rfl ?_
    refine vK 164 i31_163 rfl ?_
    refine vIas 165 rfl i31_164 sh_13 rfl (fun s12 => ?_)
    refine vLan 166 i31_165 rfl rfl ?_
    refine vGetC 169 i31_166 f31_34 sh_1 rfl rfl ?_
    refine vLin 170 i31_169 rfl rfl ?_
    refine vK 171 i31_170 rfl ?_
    refine vIas 172 rfl i31_171 sh_14 rfl (fun s13 => ?_)
    exact vR0 i31_172 m31
  · refine vLan 15 i31_14 rfl rfl ?_
    refine vGetC 18 i31_15 f31_24 sh_1 rfl rfl ?_
    refine vLin 19 i31_18 rfl rfl ?_
    refine vIal 20 rfl i31_19 sh_11 rfl ?_
    refine vCallI 23 [vi (s 11 (Int.toNat (w32 x3)))] [] [(0, vi (s 11 (Int.toNat (w32 x3))))] i31_20 rfl (xlk1 l31_132) (Or.inr (Or.inl rfl)) m30 rfl rfl (Nat.le_of_ble_eq_true rfl) (Nat.le_of_ble_eq_true rfl) (Nat.le_of_ble_eq_true rfl) rfl rfl rfl (fun R1 => c_x2_sortOf N   (by omega) s (s 11 (Int.toNat (w32 x3)))) (fun s14 v15 => ?_)
    refine vSi0 25 [(4, vi v15), (0, .ref 1), (1, vi x1), (3, vi x3)] i31_23 m31 (by decide) rfl rfl ?_
    refine vLi 27 i31_25 rfl rfl ?_
    refine vK 28 i31_27 rfl ?_
    refine vCeq 37 31 rfl (show w32 1 = 1 from rfl) i31_28 rfl rfl ?_ ?_
    · exact fun hD => tLc [(0, .ref 1), (1, vi x1), (3, vi x3), (4, vi v15)] (xNdk [0, 1, 3, 4] rfl (by decide)) (xNdk [4, 0, 1, 3] rfl (by decide)) ⟨rfl, rfl, rfl, rfl, trivial⟩ (c_x2_splitTape_37 N  hd k6 hk6 s14 x1 x3 v15 hD)
    · refine vLi 33 i31_31 rfl rfl ?_
      refine vK 34 i31_33 rfl ?_
      refine vCne 41 37 rfl (show w32 2 = 2 from rfl) i31_34 rfl rfl ?_ ?_
      · refine vK 42 i31_41 rfl ?_
        exact fun hD => tLc [(0, .ref 1), (1, vi x1), (3, vi x3), (4, vi v15)] (xNdk [0, 1, 3, 4] rfl (by decide)) (xNdk [4, 0, 1, 3] rfl (by decide)) ⟨rfl, rfl, rfl, rfl, trivial⟩ (c_x2_splitTape_42 N  hd k6 hk6 s14 x1 x3 v15 0 hD)
      · exact fun hD => tLc [(0, .ref 1), (1, vi x1), (3, vi x3), (4, vi v15)] (xNdk [0, 1, 3, 4] rfl (by decide)) (xNdk [4, 0, 1, 3] rfl (by decide)) ⟨rfl, rfl, rfl, rfl, trivial⟩ (c_x2_splitTape_37 N  hd k6 hk6 s14 x1 x3 v15 hD)
theorem c_x2_splitTape_6L {sc : xS} {d : Nat} {R : Rs} (N : Nat)  (hd : 7 ≤ d)   : ∀ (n : Nat) (s : St) (x1 : Int) (x3 : Int), d_x2_splitTape_6L N  n s x1 x3 = some R → vT sc d 31 6 [(0, .ref 1), (1, vi x1), (3, vi x3)] [] s (fun r => r = qV R) := by
  intro n
  induction n with
  | zero => intro s x1 x3 hD; cases hD
  | succ n ih => intro s x1 x3 hD; exact c_x2_splitTape_6 N  hd  _ ih s x1 x3 hD
def d_x2_splitTape (N : Nat)  (s : St)  : Option Rs :=
  d_x2_splitTape_6L N  N s 0 0
set_option maxHeartbeats 4000000 in
set_option maxRecDepth 100000 in
theorem c_x2_splitTape {sc : xS} {d : Nat} {R : Rs} (N : Nat)  (hd : 7 ≤ d)   (s : St)  : d_x2_splitTape N  s  = some R → vT sc d 31 0 [(0, .ref 1)] [] s (fun r => r = qV R) := by
  obtain ⟨d, rfl⟩ : ∃ d', d = d' + 1 := ⟨d - 1, by omega⟩
  unfold d_x2_splitTape
  refine vK 1 i31_0 rfl ?_
  refine vSin0 2 [(1, vi 0), (0, .ref 1)] i31_1 m31 (by decide) rfl rfl ?_
  refine vK 3 i31_2 rfl ?_
  refine vSin0 4 [(2, vi 0), (1, vi 0), (0, .ref 1)] i31_3 m31 (by decide) rfl rfl ?_
  refine vK 5 i31_4 rfl ?_
  refine vSin0 6 [(3, vi 0), (2, vi 0), (1, vi 0), (0, .ref 1)] i31_5 m31 (by decide) rfl rfl ?_
  exact fun hD => tLc [(0, .ref 1), (1, vi 0), (3, vi 0)] (xNdk [0, 1, 3] rfl (by decide)) (xNdk [3, 2, 1, 0] rfl (by decide)) ⟨rfl, rfl, rfl, trivial⟩ (c_x2_splitTape_6L N  hd  N s 0 0 hD)
theorem f29_40 : xFld xg 29 40 = some (1, 7) := by decide +kernel
theorem f29_14 : xFld xg 29 14 = some (1, 0) := by decide +kernel
theorem f29_31 : xFld xg 29 31 = some (1, 4) := by decide +kernel
theorem f29_37 : xFld xg 29 37 = some (1, 6) := by decide +kernel
theorem f29_49 : xFld xg 29 49 = some (4, 1) := by decide +kernel
theorem i29_84 : xIns xg 29 84 = some (.aload_n 0) := by decide +kernel
theorem i29_85 : xIns xg 29 85 = some (.iconst 0) := by decide +kernel
theorem i29_86 : xIns xg 29 86 = some (.putfield 20) := by decide +kernel
theorem p29_20 : xPut xg 29 20 = some (1, 1, .int) := by decide +kernel
theorem i29_89 : xIns xg 29 89 = some (.aload_n 0) := by decide +kernel
theorem i29_90 : xIns xg 29 90 = some (.getfield 40) := by decide +kernel
theorem i29_93 : xIns xg 29 93 = some (.iconst (-1)) := by decide +kernel
theorem i29_94 : xIns xg 29 94 = some (.if_icmp .eq 11) := by decide +kernel
theorem i29_105 : xIns xg 29 105 = some (.aload_n 0) := by decide +kernel
theorem i29_106 : xIns xg 29 106 = some (.getfield 14) := by decide +kernel
theorem i29_109 : xIns xg 29 109 = some (.iconst 0) := by decide +kernel
theorem i29_110 : xIns xg 29 110 = some (.iload_n 1) := by decide +kernel
theorem i29_111 : xIns xg 29 111 = some (.invokevirtual 61) := by decide +kernel
theorem i29_114 : xIns xg 29 114 = some (.iload_n 1) := by decide +kernel
theorem i29_115 : xIns xg 29 115 = some (.ireturn) := by decide +kernel
theorem m29 : (xMet xg 29).2.2 = (3, (some .int)) := by decide +kernel
theorem i29_97 : xIns xg 29 97 = some (.bipush (-100)) := by decide +kernel
theorem i29_99 : xIns xg 29 99 = some (.aload_n 0) := by decide +kernel
theorem i29_100 : xIns xg 29 100 = some (.getfield 40) := by decide +kernel
theorem i29_103 : xIns xg 29 103 = some (.isub) := by decide +kernel
theorem i29_104 : xIns xg 29 104 = some (.ireturn) := by decide +kernel
theorem i29_80 : xIns xg 29 80 = some (.aload_n 0) := by decide +kernel
theorem i29_81 : xIns xg 29 81 = some (.invokevirtual 58) := by decide +kernel
theorem i29_64 : xIns xg 29 64 = some (.iload_n 2) := by decide +kernel
theorem i29_65 : xIns xg 29 65 = some (.ifCond .gt 15) := by decide +kernel
theorem i29_68 : xIns xg 29 68 = some (.aload_n 0) := by decide +kernel
theorem i29_69 : xIns xg 29 69 = some (.getfield 31) := by decide +kernel
theorem i29_72 : xIns xg 29 72 = some (.aload_n 0) := by decide +kernel
theorem i29_73 : xIns xg 29 73 = some (.getfield 37) := by decide +kernel
theorem i29_76 : xIns xg 29 76 = some (.iaload) := by decide +kernel
theorem i29_77 : xIns xg 29 77 = some (.ifCond .eq 7) := by decide +kernel
theorem i29_18 : xIns xg 29 18 = some (.iload_n 1) := by decide +kernel
theorem i29_19 : xIns xg 29 19 = some (.bipush 24) := by decide +kernel
theorem i29_21 : xIns xg 29 21 = some (.if_icmp .ge 43) := by decide +kernel
theorem i29_24 : xIns xg 29 24 = some (.iload_n 2) := by decide +kernel
theorem i29_25 : xIns xg 29 25 = some (.ifCond .le 39) := by decide +kernel
theorem i29_28 : xIns xg 29 28 = some (.aload_n 0) := by decide +kernel
theorem i29_29 : xIns xg 29 29 = some (.getfield 40) := by decide +kernel
theorem i29_32 : xIns xg 29 32 = some (.iconst (-1)) := by decide +kernel
theorem i29_33 : xIns xg 29 33 = some (.if_icmp .ne 31) := by decide +kernel
theorem i29_36 : xIns xg 29 36 = some (.aload_n 0) := by decide +kernel
theorem i29_37 : xIns xg 29 37 = some (.iload_n 1) := by decide +kernel
theorem i29_38 : xIns xg 29 38 = some (.invokevirtual 46) := by decide +kernel
theorem i29_41 : xIns xg 29 41 = some (.iload_n 2) := by decide +kernel
theorem i29_42 : xIns xg 29 42 = some (.aload_n 0) := by decide +kernel
theorem i29_43 : xIns xg 29 43 = some (.getfield 14) := by decide +kernel
theorem i29_46 : xIns xg 29 46 = some (.getfield 49) := by decide +kernel
theorem i29_49 : xIns xg 29 49 = some (.iload_n 1) := by decide +kernel
theorem i29_50 : xIns xg 29 50 = some (.iaload) := by decide +kernel
theorem i29_51 : xIns xg 29 51 = some (.invokestatic 52) := by decide +kernel
theorem i29_54 : xIns xg 29 54 = some (.iconst 1) := by decide +kernel
theorem i29_55 : xIns xg 29 55 = some (.isub) := by decide +kernel
theorem i29_56 : xIns xg 29 56 = some (.iadd) := by decide +kernel
theorem i29_57 : xIns xg 29 57 = some (.istore_n 2) := by decide +kernel
theorem i29_58 : xIns xg 29 58 = some (.iinc 1 1) := by decide +kernel
theorem i29_61 : xIns xg 29 61 = some (.goto (-43)) := by decide +kernel
theorem i29_0 : xIns xg 29 0 = some (.aload_n 0) := by decide +kernel
theorem i29_1 : xIns xg 29 1 = some (.invokevirtual 43) := by decide +kernel
theorem i29_4 : xIns xg 29 4 = some (.aload_n 0) := by decide +kernel
theorem i29_5 : xIns xg 29 5 = some (.iconst 0) := by decide +kernel
theorem i29_6 : xIns xg 29 6 = some (.putfield 37) := by decide +kernel
theorem p29_37 : xPut xg 29 37 = some (1, 6, .int) := by decide +kernel
theorem i29_9 : xIns xg 29 9 = some (.aload_n 0) := by decide +kernel
theorem i29_10 : xIns xg 29 10 = some (.iconst (-1)) := by decide +kernel
theorem i29_11 : xIns xg 29 11 = some (.putfield 40) := by decide +kernel
theorem p29_40 : xPut xg 29 40 = some (1, 7, .int) := by decide +kernel
theorem i29_14 : xIns xg 29 14 = some (.iconst 0) := by decide +kernel
theorem i29_15 : xIns xg 29 15 = some (.istore_n 1) := by decide +kernel
theorem i29_16 : xIns xg 29 16 = some (.iconst 1) := by decide +kernel
theorem i29_17 : xIns xg 29 17 = some (.istore_n 2) := by decide +kernel
def d_x2_readTape_84 (N : Nat)  (s : St) (x1 : Int) : Option Rs :=
  bd (up s 1 1 0) fun s1 => (if (w32 (s1 1 7)) = (-1) then bV (d_x5_close N 2 1 s1 0 x1) fun s2 => some (s2, x1) else some (s1, ((-100) - (s1 1 7))))
set_option maxHeartbeats 4000000 in
set_option maxRecDepth 100000 in
theorem c_x2_readTape_84 {sc : xS} {d : Nat} {R : Rs} (N : Nat)  (hd : 8 ≤ d)   (s : St) (x1 : Int) : d_x2_readTape_84 N  s x1 = some R → vT sc d 29 84 [(0, .ref 1), (1, vi x1)] [] s (fun r => r = qI R) := by
  obtain ⟨d, rfl⟩ : ∃ d', d = d' + 1 := ⟨d - 1, by omega⟩
  unfold d_x2_readTape_84
  refine vLan 85 i29_84 rfl rfl ?_
  refine vK 86 i29_85 rfl ?_
  refine vPut 89 i29_86 p29_20 sh_1 rfl rfl (fun s1 => ?_)
  refine vLan 90 i29_89 rfl rfl ?_
  refine vGet 93 i29_90 f29_40 sh_1 rfl rfl ?_
  refine vK 94 i29_93 rfl ?_
  refine vCeq 105 97 rfl (show w32 (-1) = (-1) from rfl) i29_94 rfl rfl ?_ ?_
  · refine vLan 106 i29_105 rfl rfl ?_
    refine vGetC 109 i29_106 f29_14 sh_1 rfl rfl ?_
    refine vK 110 i29_109 rfl ?_
    refine vLin 111 i29_110 rfl rfl ?_
    refine vCallV 114 [.ref 2, vi 0, vi x1] [] [(0, .ref 2), (1, vi 0), (2, vi x1)] i29_111 rfl (xlk0 l29_61) (Or.inl rfl) m63 rfl rfl (Nat.le_of_ble_eq_true rfl) (Nat.le_of_ble_eq_true rfl) (Nat.le_of_ble_eq_true rfl) (xh0 sh_2 (by decide)) rfl rfl (fun R1 => c_x5_close N 2 1 isTexts_2 (by omega) s1 0 x1) (fun s2 => ?_)
    refine vLin 115 i29_114 rfl rfl ?_
    exact vRi i29_115 m29 rfl
  · refine vKb 99 i29_97 (by decide) rfl ?_
    refine vLan 100 i29_99 rfl rfl ?_
    refine vGet 103 i29_100 f29_40 sh_1 rfl rfl ?_
    refine vIsub 104 i29_103 rfl ?_
    exact vRi i29_104 m29 rfl
def d_x2_readTape_80 (N : Nat)  (s : St) (x1 : Int) : Option Rs :=
  bV (d_x2_miss N  s ) fun s4 => d_x2_readTape_84 N  s4 x1
set_option maxHeartbeats 4000000 in
set_option maxRecDepth 100000 in
theorem c_x2_readTape_80 {sc : xS} {d : Nat} {R : Rs} (N : Nat)  (hd : 8 ≤ d)   (s : St) (x1 : Int) : d_x2_readTape_80 N  s x1 = some R → vT sc d 29 80 [(0, .ref 1), (1, vi x1)] [] s (fun r => r = qI R) := by
  obtain ⟨d, rfl⟩ : ∃ d', d = d' + 1 := ⟨d - 1, by omega⟩
  unfold d_x2_readTape_80
  refine vLan 81 i29_80 rfl rfl ?_
  refine vCallV 84 [.ref 1] [] [(0, .ref 1)] i29_81 rfl (xlk0 l29_58) (Or.inl rfl) m22 rfl rfl (Nat.le_of_ble_eq_true rfl) (Nat.le_of_ble_eq_true rfl) (Nat.le_of_ble_eq_true rfl) (xh0 sh_1 (by decide)) rfl rfl (fun R1 => c_x2_miss N   (by omega) s ) (fun s4 => ?_)
  exact fun hD => c_x2_readTape_84 N  hd  s4 x1 hD
def d_x2_readTape_64 (N : Nat)  (s : St) (x1 : Int) (x2 : Int) : Option Rs :=
  (if 0 < (w32 x2) then d_x2_readTape_80 N  s x1 else if 0 ≤ (w32 (s 1 6)) ∧ (w32 (s 1 6)) < ((121 : Nat) : Int) then (if (w32 (s 13 (Int.toNat (w32 (s 1 6))))) = 0 then d_x2_readTape_84 N  s x1 else d_x2_readTape_80 N  s x1) else none)
set_option maxHeartbeats 4000000 in
set_option maxRecDepth 100000 in
theorem c_x2_readTape_64 {sc : xS} {d : Nat} {R : Rs} (N : Nat)  (hd : 8 ≤ d)   (s : St) (x1 : Int) (x2 : Int) : d_x2_readTape_64 N  s x1 x2 = some R → vT sc d 29 64 [(0, .ref 1), (1, vi x1), (2, vi x2)] [] s (fun r => r = qI R) := by
  obtain ⟨d, rfl⟩ : ∃ d', d = d' + 1 := ⟨d - 1, by omega⟩
  unfold d_x2_readTape_64
  refine vLin 65 i29_64 rfl rfl ?_
  refine vZgt 80 68 rfl i29_65 rfl rfl ?_ ?_
  · exact fun hD => tLc [(0, .ref 1), (1, vi x1)] (xNdk [0, 1] rfl (by decide)) (xNdk [0, 1, 2] rfl (by decide)) ⟨rfl, rfl, trivial⟩ (c_x2_readTape_80 N  hd  s x1 hD)
  · refine vLan 69 i29_68 rfl rfl ?_
    refine vGetC 72 i29_69 f29_31 sh_1 rfl rfl ?_
    refine vLan 73 i29_72 rfl rfl ?_
    refine vGet 76 i29_73 f29_37 sh_1 rfl rfl ?_
    refine vIal 77 rfl i29_76 sh_13 rfl ?_
    refine vZeq 84 80 rfl i29_77 rfl rfl ?_ ?_
    · exact fun hD => tLc [(0, .ref 1), (1, vi x1)] (xNdk [0, 1] rfl (by decide)) (xNdk [0, 1, 2] rfl (by decide)) ⟨rfl, rfl, trivial⟩ (c_x2_readTape_84 N  hd  s x1 hD)
    · exact fun hD => tLc [(0, .ref 1), (1, vi x1)] (xNdk [0, 1] rfl (by decide)) (xNdk [0, 1, 2] rfl (by decide)) ⟨rfl, rfl, trivial⟩ (c_x2_readTape_80 N  hd  s x1 hD)
def d_x2_readTape_18 (N : Nat)  (k18 : St → Int → Int → Option Rs) (s : St) (x1 : Int) (x2 : Int) : Option Rs :=
  (if (w32 x1) < 24 then (if 0 < (w32 x2) then (if (w32 (s 1 7)) = (-1) then bV (d_x2_readPart N  s x1) fun s6 => if 0 ≤ (w32 x1) ∧ (w32 x1) < ((24 : Nat) : Int) then bI (d_x0_rows N  s6 (s6 4 (Int.toNat (w32 x1)))) fun s8 v9 => bd (x2 + (v9 - 1)) fun v10 => bd (x1 + 1) fun v11 => k18 s8 v11 v10 else none else d_x2_readTape_64 N  s x1 x2) else d_x2_readTape_64 N  s x1 x2) else d_x2_readTape_64 N  s x1 x2)
def d_x2_readTape_18L (N : Nat)  : Nat → St → Int → Int → Option Rs
  | 0 => fun _ _ _ => none
  | n + 1 => d_x2_readTape_18 N  (d_x2_readTape_18L N  n)
set_option maxHeartbeats 4000000 in
set_option maxRecDepth 100000 in
theorem c_x2_readTape_18 {sc : xS} {d : Nat} {R : Rs} (N : Nat)  (hd : 8 ≤ d)   (k18 : St → Int → Int → Option Rs) (hk18 : ∀ (s : St) (x1 : Int) (x2 : Int), k18 s x1 x2 = some R → vT sc d 29 18 [(0, .ref 1), (1, vi x1), (2, vi x2)] [] s (fun r => r = qI R)) (s : St) (x1 : Int) (x2 : Int) : d_x2_readTape_18 N  k18 s x1 x2 = some R → vT sc d 29 18 [(0, .ref 1), (1, vi x1), (2, vi x2)] [] s (fun r => r = qI R) := by
  obtain ⟨d, rfl⟩ : ∃ d', d = d' + 1 := ⟨d - 1, by omega⟩
  unfold d_x2_readTape_18
  refine vLin 19 i29_18 rfl rfl ?_
  refine vKb 21 i29_19 (by decide) rfl ?_
  refine vCge 64 24 rfl (show w32 24 = 24 from rfl) i29_21 rfl rfl ?_ ?_
  · exact fun hD => c_x2_readTape_64 N  hd  s x1 x2 hD
  · refine vLin 25 i29_24 rfl rfl ?_
    refine vZle 64 28 rfl i29_25 rfl rfl ?_ ?_
    · exact fun hD => c_x2_readTape_64 N  hd  s x1 x2 hD
    · refine vLan 29 i29_28 rfl rfl ?_
      refine vGet 32 i29_29 f29_40 sh_1 rfl rfl ?_
      refine vK 33 i29_32 rfl ?_
      refine vCne 64 36 rfl (show w32 (-1) = (-1) from rfl) i29_33 rfl rfl ?_ ?_
      · exact fun hD => c_x2_readTape_64 N  hd  s x1 x2 hD
      · refine vLan 37 i29_36 rfl rfl ?_
        refine vLin 38 i29_37 rfl rfl ?_
        refine vCallV 41 [.ref 1, vi x1] [] [(0, .ref 1), (1, vi x1)] i29_38 rfl (xlk0 l29_46) (Or.inl rfl) m27 rfl rfl (Nat.le_of_ble_eq_true rfl) (Nat.le_of_ble_eq_true rfl) (Nat.le_of_ble_eq_true rfl) (xh0 sh_1 (by decide)) rfl rfl (fun R1 => c_x2_readPart N   (by omega) s x1) (fun s6 => ?_)
        refine vLin 42 i29_41 rfl rfl ?_
        refine vLan 43 i29_42 rfl rfl ?_
        refine vGetC 46 i29_43 f29_14 sh_1 rfl rfl ?_
        refine vGetC 49 i29_46 f29_49 sh_2 rfl rfl ?_
        refine vLin 50 i29_49 rfl rfl ?_
        refine vIal 51 rfl i29_50 sh_4 rfl ?_
        refine vCallI 54 [vi (s6 4 (Int.toNat (w32 x1)))] [vi x2] [(0, vi (s6 4 (Int.toNat (w32 x1))))] i29_51 rfl (xlk1 l29_52) (Or.inr (Or.inl rfl)) m3 rfl rfl (Nat.le_of_ble_eq_true rfl) (Nat.le_of_ble_eq_true rfl) (Nat.le_of_ble_eq_true rfl) rfl rfl rfl (fun R1 => c_x0_rows N   (by omega) s6 (s6 4 (Int.toNat (w32 x1)))) (fun s8 v9 => ?_)
        refine vK 55 i29_54 rfl ?_
        refine vIsub 56 i29_55 rfl ?_
        refine vIadd 57 i29_56 rfl ?_
        refine vSin 58 (fun v10 => [(2, vi v10), (0, .ref 1), (1, vi x1)]) i29_57 m29 (by decide) (fun v10 => (rfl : xst1 [(0, .ref 1), (1, vi x1), (2, vi x2)] 2 (vi v10) = [(2, vi v10), (0, .ref 1), (1, vi x1)])) rfl (fun v10 => ?_)
        refine vInc 61 (fun v11 => [(1, vi v11), (2, vi v10), (0, .ref 1)]) i29_58 m29 (by decide) rfl (fun _ => rfl) rfl (fun v11 => ?_)
        refine vGo 18 i29_61 rfl ?_
        exact fun hD => tLc [(0, .ref 1), (1, vi v11), (2, vi v10)] (xNdk [0, 1, 2] rfl (by decide)) (xNdk [1, 2, 0] rfl (by decide)) ⟨rfl, rfl, rfl, trivial⟩ (hk18 s8 v11 v10 hD)
theorem c_x2_readTape_18L {sc : xS} {d : Nat} {R : Rs} (N : Nat)  (hd : 8 ≤ d)   : ∀ (n : Nat) (s : St) (x1 : Int) (x2 : Int), d_x2_readTape_18L N  n s x1 x2 = some R → vT sc d 29 18 [(0, .ref 1), (1, vi x1), (2, vi x2)] [] s (fun r => r = qI R) := by
  intro n
  induction n with
  | zero => intro s x1 x2 hD; cases hD
  | succ n ih => intro s x1 x2 hD; exact c_x2_readTape_18 N  hd  _ ih s x1 x2 hD
def d_x2_readTape (N : Nat)  (s : St)  : Option Rs :=
  bV (d_x2_splitTape N  s ) fun s12 => bd (up s12 1 6 0) fun s14 => bd (up s14 1 7 (-1)) fun s15 => d_x2_readTape_18L N  N s15 0 1
set_option maxHeartbeats 4000000 in
set_option maxRecDepth 100000 in
theorem c_x2_readTape {sc : xS} {d : Nat} {R : Rs} (N : Nat)  (hd : 8 ≤ d)   (s : St)  : d_x2_readTape N  s  = some R → vT sc d 29 0 [(0, .ref 1)] [] s (fun r => r = qI R) := by
  obtain ⟨d, rfl⟩ : ∃ d', d = d' + 1 := ⟨d - 1, by omega⟩
  unfold d_x2_readTape
  refine vLan 1 i29_0 rfl rfl ?_
  refine vCallV 4 [.ref 1] [] [(0, .ref 1)] i29_1 rfl (xlk0 l29_43) (Or.inl rfl) m31 rfl rfl (Nat.le_of_ble_eq_true rfl) (Nat.le_of_ble_eq_true rfl) (Nat.le_of_ble_eq_true rfl) (xh0 sh_1 (by decide)) rfl rfl (fun R1 => c_x2_splitTape N   (by omega) s ) (fun s12 => ?_)
  refine vLan 5 i29_4 rfl rfl ?_
  refine vK 6 i29_5 rfl ?_
  refine vPut 9 i29_6 p29_37 sh_1 rfl rfl (fun s14 => ?_)
  refine vLan 10 i29_9 rfl rfl ?_
  refine vK 11 i29_10 rfl ?_
  refine vPut 14 i29_11 p29_40 sh_1 rfl rfl (fun s15 => ?_)
  refine vK 15 i29_14 rfl ?_
  refine vSin0 16 [(1, vi 0), (0, .ref 1)] i29_15 m29 (by decide) rfl rfl ?_
  refine vK 17 i29_16 rfl ?_
  refine vSin0 18 [(2, vi 1), (1, vi 0), (0, .ref 1)] i29_17 m29 (by decide) rfl rfl ?_
  exact fun hD => tLc [(0, .ref 1), (1, vi 0), (2, vi 1)] (xNdk [0, 1, 2] rfl (by decide)) (xNdk [2, 1, 0] rfl (by decide)) ⟨rfl, rfl, rfl, trivial⟩ (c_x2_readTape_18L N  hd  N s15 0 1 hD)
theorem f8_15 : xFld xg 8 15 = some (0, 1) := by decide +kernel
theorem f8_11 : xFld xg 8 11 = some (0, 0) := by decide +kernel
theorem i8_0 : xIns xg 8 0 = some (.aload_n 0) := by decide +kernel
theorem i8_1 : xIns xg 8 1 = some (.getfield 15) := by decide +kernel
theorem i8_4 : xIns xg 8 4 = some (.sipush 1024) := by decide +kernel
theorem i8_7 : xIns xg 8 7 = some (.if_icmp .lt 4) := by decide +kernel
theorem i8_11 : xIns xg 8 11 = some (.aload_n 0) := by decide +kernel
theorem i8_12 : xIns xg 8 12 = some (.getfield 11) := by decide +kernel
theorem i8_15 : xIns xg 8 15 = some (.aload_n 0) := by decide +kernel
theorem i8_16 : xIns xg 8 16 = some (.getfield 15) := by decide +kernel
theorem i8_19 : xIns xg 8 19 = some (.iload_n 1) := by decide +kernel
theorem i8_20 : xIns xg 8 20 = some (.iastore) := by decide +kernel
theorem i8_21 : xIns xg 8 21 = some (.aload_n 0) := by decide +kernel
theorem i8_22 : xIns xg 8 22 = some (.dup) := by decide +kernel
theorem i8_23 : xIns xg 8 23 = some (.getfield 15) := by decide +kernel
theorem i8_26 : xIns xg 8 26 = some (.iconst 1) := by decide +kernel
theorem i8_27 : xIns xg 8 27 = some (.iadd) := by decide +kernel
theorem i8_28 : xIns xg 8 28 = some (.putfield 15) := by decide +kernel
theorem p8_15 : xPut xg 8 15 = some (0, 1, .int) := by decide +kernel
theorem i8_31 : xIns xg 8 31 = some (.return_) := by decide +kernel
theorem m8 : (xMet xg 8).2.2 = (2, none) := by decide +kernel
theorem i8_10 : xIns xg 8 10 = some (.return_) := by decide +kernel
def d_x1_writeByte (N : Nat)  (s : St) (a0 : Int) : Option Rs :=
  (if (w32 (s 15 1)) < 1024 then if 0 ≤ (w32 (s 15 1)) ∧ (w32 (s 15 1)) < ((1024 : Nat) : Int) then bd (up s 16 (Int.toNat (w32 (s 15 1))) a0) fun s1 => bd (up s1 15 1 ((s1 15 1) + 1)) fun s2 => some (s2, 0) else none else some (s, 0))
set_option maxHeartbeats 4000000 in
set_option maxRecDepth 100000 in
theorem c_x1_writeByte {sc : xS} {d : Nat} {R : Rs} (N : Nat)  (hd : 0 ≤ d)   (s : St) (a0 : Int) : d_x1_writeByte N  s a0 = some R → vT sc d 8 0 [(0, .ref 15), (1, vi a0)] [] s (fun r => r = qV R) := by
  unfold d_x1_writeByte
  refine vLan 1 i8_0 rfl rfl ?_
  refine vGet 4 i8_1 f8_15 sh_15 rfl rfl ?_
  refine vKs 7 i8_4 (by decide) rfl ?_
  refine vClt 11 10 rfl (show w32 1024 = 1024 from rfl) i8_7 rfl rfl ?_ ?_
  · refine vLan 12 i8_11 rfl rfl ?_
    refine vGetC 15 i8_12 f8_11 sh_15 rfl rfl ?_
    refine vLan 16 i8_15 rfl rfl ?_
    refine vGet 19 i8_16 f8_15 sh_15 rfl rfl ?_
    refine vLin 20 i8_19 rfl rfl ?_
    refine vIas 21 rfl i8_20 sh_16 rfl (fun s1 => ?_)
    refine vLan 22 i8_21 rfl rfl ?_
    refine vD 23 i8_22 rfl rfl rfl ?_
    refine vGet 26 i8_23 f8_15 sh_15 rfl rfl ?_
    refine vK 27 i8_26 rfl ?_
    refine vIadd 28 i8_27 rfl ?_
    refine vPut 31 i8_28 p8_15 sh_15 rfl rfl (fun s2 => ?_)
    exact vR0 i8_31 m8
  · exact vR0 i8_10 m8
theorem f7_15 : xFld xg 7 15 = some (0, 1) := by decide +kernel
theorem i7_0 : xIns xg 7 0 = some (.aload_n 0) := by decide +kernel
theorem i7_1 : xIns xg 7 1 = some (.getfield 15) := by decide +kernel
theorem i7_4 : xIns xg 7 4 = some (.ifCond .le 9) := by decide +kernel
theorem i7_13 : xIns xg 7 13 = some (.return_) := by decide +kernel
theorem m7 : (xMet xg 7).2.2 = (1, none) := by decide +kernel
theorem i7_7 : xIns xg 7 7 = some (.aload_n 0) := by decide +kernel
theorem i7_8 : xIns xg 7 8 = some (.bipush 32) := by decide +kernel
theorem i7_10 : xIns xg 7 10 = some (.invokevirtual 88) := by decide +kernel
def d_x1_writeBlank (N : Nat)  (s : St)  : Option Rs :=
  (if 0 < (w32 (s 15 1)) then bV (d_x1_writeByte N  s 32) fun s1 => some (s1, 0) else some (s, 0))
set_option maxHeartbeats 4000000 in
set_option maxRecDepth 100000 in
theorem c_x1_writeBlank {sc : xS} {d : Nat} {R : Rs} (N : Nat)  (hd : 1 ≤ d)   (s : St)  : d_x1_writeBlank N  s  = some R → vT sc d 7 0 [(0, .ref 15)] [] s (fun r => r = qV R) := by
  obtain ⟨d, rfl⟩ : ∃ d', d = d' + 1 := ⟨d - 1, by omega⟩
  unfold d_x1_writeBlank
  refine vLan 1 i7_0 rfl rfl ?_
  refine vGet 4 i7_1 f7_15 sh_15 rfl rfl ?_
  refine vZle 13 7 rfl i7_4 rfl rfl ?_ ?_
  · exact vR0 i7_13 m7
  · refine vLan 8 i7_7 rfl rfl ?_
    refine vKb 10 i7_8 (by decide) rfl ?_
    refine vCallV 13 [.ref 15, vi 32] [] [(0, .ref 15), (1, vi 32)] i7_10 rfl (xlk0 l7_88) (Or.inl rfl) m8 rfl rfl (Nat.le_of_ble_eq_true rfl) (Nat.le_of_ble_eq_true rfl) (Nat.le_of_ble_eq_true rfl) (xh0 sh_15 (by decide)) rfl rfl (fun R1 => c_x1_writeByte N   (by omega) s 32) (fun s1 => ?_)
    exact vR0 i7_13 m7
theorem i10_71 : xIns xg 10 71 = some (.lload 5) := by decide +kernel
theorem i10_73 : xIns xg 10 73 = some (.lconst 0) := by decide +kernel
theorem i10_74 : xIns xg 10 74 = some (.lcmp) := by decide +kernel
theorem i10_75 : xIns xg 10 75 = some (.ifCond .le 30) := by decide +kernel
theorem i10_105 : xIns xg 10 105 = some (.return_) := by decide +kernel
theorem m10 : (xMet xg 10).2.2 = (8, none) := by decide +kernel
theorem i10_78 : xIns xg 10 78 = some (.aload_n 0) := by decide +kernel
theorem i10_79 : xIns xg 10 79 = some (.bipush 48) := by decide +kernel
theorem i10_81 : xIns xg 10 81 = some (.lload_n 3) := by decide +kernel
theorem i10_82 : xIns xg 10 82 = some (.lload 5) := by decide +kernel
theorem i10_84 : xIns xg 10 84 = some (.ldiv) := by decide +kernel
theorem i10_85 : xIns xg 10 85 = some (.ldc2_w 93) := by decide +kernel
theorem c10_93 : xCon xg 10 93 = some (vl (10)) := by decide +kernel
theorem i10_88 : xIns xg 10 88 = some (.lrem) := by decide +kernel
theorem i10_89 : xIns xg 10 89 = some (.l2i) := by decide +kernel
theorem i10_90 : xIns xg 10 90 = some (.isub) := by decide +kernel
theorem i10_91 : xIns xg 10 91 = some (.invokevirtual 88) := by decide +kernel
theorem i10_94 : xIns xg 10 94 = some (.lload 5) := by decide +kernel
theorem i10_96 : xIns xg 10 96 = some (.ldc2_w 93) := by decide +kernel
theorem i10_99 : xIns xg 10 99 = some (.ldiv) := by decide +kernel
theorem i10_100 : xIns xg 10 100 = some (.lstore 5) := by decide +kernel
theorem i10_102 : xIns xg 10 102 = some (.goto (-31)) := by decide +kernel
theorem i10_39 : xIns xg 10 39 = some (.iload 7) := by decide +kernel
theorem i10_41 : xIns xg 10 41 = some (.bipush 19) := by decide +kernel
theorem i10_43 : xIns xg 10 43 = some (.if_icmp .ge 28) := by decide +kernel
theorem i10_46 : xIns xg 10 46 = some (.lload_n 3) := by decide +kernel
theorem i10_47 : xIns xg 10 47 = some (.lload 5) := by decide +kernel
theorem i10_49 : xIns xg 10 49 = some (.ldiv) := by decide +kernel
theorem i10_50 : xIns xg 10 50 = some (.ldc2_w 91) := by decide +kernel
theorem c10_91 : xCon xg 10 91 = some (vl (-10)) := by decide +kernel
theorem i10_53 : xIns xg 10 53 = some (.lcmp) := by decide +kernel
theorem i10_54 : xIns xg 10 54 = some (.ifCond .gt 17) := by decide +kernel
theorem i10_57 : xIns xg 10 57 = some (.lload 5) := by decide +kernel
theorem i10_59 : xIns xg 10 59 = some (.ldc2_w 93) := by decide +kernel
theorem i10_62 : xIns xg 10 62 = some (.lmul) := by decide +kernel
theorem i10_63 : xIns xg 10 63 = some (.lstore 5) := by decide +kernel
theorem i10_65 : xIns xg 10 65 = some (.iinc 7 1) := by decide +kernel
theorem i10_68 : xIns xg 10 68 = some (.goto (-29)) := by decide +kernel
theorem i10_32 : xIns xg 10 32 = some (.lstore_n 3) := by decide +kernel
theorem i10_33 : xIns xg 10 33 = some (.lconst 1) := by decide +kernel
theorem i10_34 : xIns xg 10 34 = some (.lstore 5) := by decide +kernel
theorem i10_36 : xIns xg 10 36 = some (.iconst 1) := by decide +kernel
theorem i10_37 : xIns xg 10 37 = some (.istore 7) := by decide +kernel
theorem i10_20 : xIns xg 10 20 = some (.lload_n 1) := by decide +kernel
theorem i10_21 : xIns xg 10 21 = some (.lconst 0) := by decide +kernel
theorem i10_22 : xIns xg 10 22 = some (.lcmp) := by decide +kernel
theorem i10_23 : xIns xg 10 23 = some (.ifCond .ge 7) := by decide +kernel
theorem i10_30 : xIns xg 10 30 = some (.lload_n 1) := by decide +kernel
theorem i10_31 : xIns xg 10 31 = some (.lneg) := by decide +kernel
theorem i10_26 : xIns xg 10 26 = some (.lload_n 1) := by decide +kernel
theorem i10_27 : xIns xg 10 27 = some (.goto 5) := by decide +kernel
theorem i10_0 : xIns xg 10 0 = some (.aload_n 0) := by decide +kernel
theorem i10_1 : xIns xg 10 1 = some (.invokevirtual 85) := by decide +kernel
theorem i10_4 : xIns xg 10 4 = some (.lload_n 1) := by decide +kernel
theorem i10_5 : xIns xg 10 5 = some (.lconst 0) := by decide +kernel
theorem i10_6 : xIns xg 10 6 = some (.lcmp) := by decide +kernel
theorem i10_7 : xIns xg 10 7 = some (.ifCond .ge 13) := by decide +kernel
theorem i10_10 : xIns xg 10 10 = some (.aload_n 0) := by decide +kernel
theorem i10_11 : xIns xg 10 11 = some (.bipush 45) := by decide +kernel
theorem i10_13 : xIns xg 10 13 = some (.invokevirtual 88) := by decide +kernel
theorem i10_16 : xIns xg 10 16 = some (.aload_n 0) := by decide +kernel
theorem i10_17 : xIns xg 10 17 = some (.invokevirtual 85) := by decide +kernel
def d_x1_writeNum_71 (N : Nat)  (k71 : St → Int → Int → Option Rs) (s : St) (x3 : Int) (x5 : Int) : Option Rs :=
  (if 0 < (w64 x5) then if (w64 x5) = 0 then none else if 10 = 0 then none else bV (d_x1_writeByte N  s (48 - (Int.tmod (w64 (Int.tdiv (w64 x3) (w64 x5))) 10))) fun s1 => if 10 = 0 then none else bd (Int.tdiv (w64 x5) 10) fun v3 => k71 s1 x3 v3 else some (s, 0))
def d_x1_writeNum_71L (N : Nat)  : Nat → St → Int → Int → Option Rs
  | 0 => fun _ _ _ => none
  | n + 1 => d_x1_writeNum_71 N  (d_x1_writeNum_71L N  n)
set_option maxHeartbeats 4000000 in
set_option maxRecDepth 100000 in
theorem c_x1_writeNum_71 {sc : xS} {d : Nat} {R : Rs} (N : Nat)  (hd : 2 ≤ d)   (k71 : St → Int → Int → Option Rs) (hk71 : ∀ (s : St) (x3 : Int) (x5 : Int), k71 s x3 x5 = some R → vT sc d 10 71 [(0, .ref 15), (3, vl x3), (5, vl x5)] [] s (fun r => r = qV R)) (s : St) (x3 : Int) (x5 : Int) : d_x1_writeNum_71 N  k71 s x3 x5 = some R → vT sc d 10 71 [(0, .ref 15), (3, vl x3), (5, vl x5)] [] s (fun r => r = qV R) := by
  obtain ⟨d, rfl⟩ : ∃ d', d = d' + 1 := ⟨d - 1, by omega⟩
  unfold d_x1_writeNum_71
  refine vLl 73 i10_71 rfl rfl ?_
  refine vKl 74 0 i10_73 (by decide) rfl ?_
  refine vLcle 105 75 78 rfl (show w64 0 = 0 from rfl) i10_74 rfl i10_75 rfl rfl ?_ ?_
  · exact vR0 i10_105 m10
  · refine vLan 79 i10_78 rfl rfl ?_
    refine vKb 81 i10_79 (by decide) rfl ?_
    refine vLln 82 i10_81 rfl rfl ?_
    refine vLl 84 i10_82 rfl rfl ?_
    refine vLdiv 85 rfl rfl i10_84 rfl ?_
    refine vKd 88 i10_85 c10_93 rfl ?_
    refine vLrem 89 rfl (show w64 10 = 10 from rfl) i10_88 rfl ?_
    refine vL2i 90 i10_89 rfl ?_
    refine vIsub 91 i10_90 rfl ?_
    refine vCallV 94 [.ref 15, vi (48 - (Int.tmod (w64 (Int.tdiv (w64 x3) (w64 x5))) 10))] [] [(0, .ref 15), (1, vi (48 - (Int.tmod (w64 (Int.tdiv (w64 x3) (w64 x5))) 10)))] i10_91 rfl (xlk0 l10_88) (Or.inl rfl) m8 rfl rfl (Nat.le_of_ble_eq_true rfl) (Nat.le_of_ble_eq_true rfl) (Nat.le_of_ble_eq_true rfl) (xh0 sh_15 (by decide)) rfl rfl (fun R1 => c_x1_writeByte N   (by omega) s (48 - (Int.tmod (w64 (Int.tdiv (w64 x3) (w64 x5))) 10))) (fun s1 => ?_)
    refine vLl 96 i10_94 rfl rfl ?_
    refine vKd 99 i10_96 c10_93 rfl ?_
    refine vLdiv 100 rfl (show w64 10 = 10 from rfl) i10_99 rfl ?_
    refine vSl 102 (fun v3 => [(5, vl v3), (0, .ref 15), (3, vl x3)]) i10_100 m10 (by decide) (fun v3 => (rfl : xst2 [(0, .ref 15), (3, vl x3), (5, vl x5)] 5 (vl v3) = [(5, vl v3), (0, .ref 15), (3, vl x3)])) rfl (fun v3 => ?_)
    refine vGo 71 i10_102 rfl ?_
    exact fun hD => tLc [(0, .ref 15), (3, vl x3), (5, vl v3)] (xNdk [0, 3, 5] rfl (by decide)) (xNdk [5, 0, 3] rfl (by decide)) ⟨rfl, rfl, rfl, trivial⟩ (hk71 s1 x3 v3 hD)
theorem c_x1_writeNum_71L {sc : xS} {d : Nat} {R : Rs} (N : Nat)  (hd : 2 ≤ d)   : ∀ (n : Nat) (s : St) (x3 : Int) (x5 : Int), d_x1_writeNum_71L N  n s x3 x5 = some R → vT sc d 10 71 [(0, .ref 15), (3, vl x3), (5, vl x5)] [] s (fun r => r = qV R) := by
  intro n
  induction n with
  | zero => intro s x3 x5 hD; cases hD
  | succ n ih => intro s x3 x5 hD; exact c_x1_writeNum_71 N  hd  _ ih s x3 x5 hD
def d_x1_writeNum_39 (N : Nat)  (k39 : St → Int → Int → Int → Option Rs) (s : St) (x3 : Int) (x5 : Int) (x7 : Int) : Option Rs :=
  (if (w32 x7) < 19 then if (w64 x5) = 0 then none else (if (-10) < (w64 (Int.tdiv (w64 x3) (w64 x5))) then d_x1_writeNum_71L N  N s x3 x5 else bd (x5 * 10) fun v4 => bd (x7 + 1) fun v5 => k39 s x3 v4 v5) else d_x1_writeNum_71L N  N s x3 x5)
def d_x1_writeNum_39L (N : Nat)  : Nat → St → Int → Int → Int → Option Rs
  | 0 => fun _ _ _ _ => none
  | n + 1 => d_x1_writeNum_39 N  (d_x1_writeNum_39L N  n)
set_option maxHeartbeats 4000000 in
set_option maxRecDepth 100000 in
theorem c_x1_writeNum_39 {sc : xS} {d : Nat} {R : Rs} (N : Nat)  (hd : 2 ≤ d)   (k39 : St → Int → Int → Int → Option Rs) (hk39 : ∀ (s : St) (x3 : Int) (x5 : Int) (x7 : Int), k39 s x3 x5 x7 = some R → vT sc d 10 39 [(0, .ref 15), (3, vl x3), (5, vl x5), (7, vi x7)] [] s (fun r => r = qV R)) (s : St) (x3 : Int) (x5 : Int) (x7 : Int) : d_x1_writeNum_39 N  k39 s x3 x5 x7 = some R → vT sc d 10 39 [(0, .ref 15), (3, vl x3), (5, vl x5), (7, vi x7)] [] s (fun r => r = qV R) := by
  obtain ⟨d, rfl⟩ : ∃ d', d = d' + 1 := ⟨d - 1, by omega⟩
  unfold d_x1_writeNum_39
  refine vLi 41 i10_39 rfl rfl ?_
  refine vKb 43 i10_41 (by decide) rfl ?_
  refine vCge 71 46 rfl (show w32 19 = 19 from rfl) i10_43 rfl rfl ?_ ?_
  · exact fun hD => tLc [(0, .ref 15), (3, vl x3), (5, vl x5)] (xNdk [0, 3, 5] rfl (by decide)) (xNdk [0, 3, 5, 7] rfl (by decide)) ⟨rfl, rfl, rfl, trivial⟩ (c_x1_writeNum_71L N  hd  N s x3 x5 hD)
  · refine vLln 47 i10_46 rfl rfl ?_
    refine vLl 49 i10_47 rfl rfl ?_
    refine vLdiv 50 rfl rfl i10_49 rfl ?_
    refine vKd 53 i10_50 c10_91 rfl ?_
    refine vLcgt 71 54 57 rfl (show w64 (-10) = (-10) from rfl) i10_53 rfl i10_54 rfl rfl ?_ ?_
    · exact fun hD => tLc [(0, .ref 15), (3, vl x3), (5, vl x5)] (xNdk [0, 3, 5] rfl (by decide)) (xNdk [0, 3, 5, 7] rfl (by decide)) ⟨rfl, rfl, rfl, trivial⟩ (c_x1_writeNum_71L N  hd  N s x3 x5 hD)
    · refine vLl 59 i10_57 rfl rfl ?_
      refine vKd 62 i10_59 c10_93 rfl ?_
      refine vLmul 63 i10_62 rfl ?_
      refine vSl 65 (fun v4 => [(5, vl v4), (0, .ref 15), (3, vl x3), (7, vi x7)]) i10_63 m10 (by decide) (fun v4 => (rfl : xst2 [(0, .ref 15), (3, vl x3), (5, vl x5), (7, vi x7)] 5 (vl v4) = [(5, vl v4), (0, .ref 15), (3, vl x3), (7, vi x7)])) rfl (fun v4 => ?_)
      refine vInc 68 (fun v5 => [(7, vi v5), (5, vl v4), (0, .ref 15), (3, vl x3)]) i10_65 m10 (by decide) rfl (fun _ => rfl) rfl (fun v5 => ?_)
      refine vGo 39 i10_68 rfl ?_
      exact fun hD => tLc [(0, .ref 15), (3, vl x3), (5, vl v4), (7, vi v5)] (xNdk [0, 3, 5, 7] rfl (by decide)) (xNdk [7, 5, 0, 3] rfl (by decide)) ⟨rfl, rfl, rfl, rfl, trivial⟩ (hk39 s x3 v4 v5 hD)
theorem c_x1_writeNum_39L {sc : xS} {d : Nat} {R : Rs} (N : Nat)  (hd : 2 ≤ d)   : ∀ (n : Nat) (s : St) (x3 : Int) (x5 : Int) (x7 : Int), d_x1_writeNum_39L N  n s x3 x5 x7 = some R → vT sc d 10 39 [(0, .ref 15), (3, vl x3), (5, vl x5), (7, vi x7)] [] s (fun r => r = qV R) := by
  intro n
  induction n with
  | zero => intro s x3 x5 x7 hD; cases hD
  | succ n ih => intro s x3 x5 x7 hD; exact c_x1_writeNum_39 N  hd  _ ih s x3 x5 x7 hD
def d_x1_writeNum_32 (N : Nat)  (s : St) (z0 : Int) : Option Rs :=
  d_x1_writeNum_39L N  N s z0 1 1
set_option maxHeartbeats 4000000 in
set_option maxRecDepth 100000 in
theorem c_x1_writeNum_32 {sc : xS} {d : Nat} {R : Rs} (N : Nat)  (hd : 2 ≤ d)   (s : St) (z0 : Int) : d_x1_writeNum_32 N  s z0 = some R → vT sc d 10 32 [(0, .ref 15)] [vl z0] s (fun r => r = qV R) := by
  obtain ⟨d, rfl⟩ : ∃ d', d = d' + 1 := ⟨d - 1, by omega⟩
  unfold d_x1_writeNum_32
  refine vSln0w 33 [(3, vl z0), (0, .ref 15)] i10_32 m10 (by decide) rfl rfl ?_
  refine vKl 34 1 i10_33 (by decide) rfl ?_
  refine vSl0 36 [(5, vl 1), (3, vl z0), (0, .ref 15)] i10_34 m10 (by decide) rfl rfl ?_
  refine vK 37 i10_36 rfl ?_
  refine vSi0 39 [(7, vi 1), (5, vl 1), (3, vl z0), (0, .ref 15)] i10_37 m10 (by decide) rfl rfl ?_
  exact fun hD => tLc [(0, .ref 15), (3, vl z0), (5, vl 1), (7, vi 1)] (xNdk [0, 3, 5, 7] rfl (by decide)) (xNdk [7, 5, 3, 0] rfl (by decide)) ⟨rfl, rfl, rfl, rfl, trivial⟩ (c_x1_writeNum_39L N  hd  N s z0 1 1 hD)
def d_x1_writeNum_20 (N : Nat)  (s : St) (x1 : Int) : Option Rs :=
  (if (w64 x1) < 0 then d_x1_writeNum_32 N  s x1 else d_x1_writeNum_32 N  s (-x1))
set_option maxHeartbeats 4000000 in
set_option maxRecDepth 100000 in
theorem c_x1_writeNum_20 {sc : xS} {d : Nat} {R : Rs} (N : Nat)  (hd : 2 ≤ d)   (s : St) (x1 : Int) : d_x1_writeNum_20 N  s x1 = some R → vT sc d 10 20 [(0, .ref 15), (1, vl x1)] [] s (fun r => r = qV R) := by
  obtain ⟨d, rfl⟩ : ∃ d', d = d' + 1 := ⟨d - 1, by omega⟩
  unfold d_x1_writeNum_20
  refine vLln 21 i10_20 rfl rfl ?_
  refine vKl 22 0 i10_21 (by decide) rfl ?_
  refine vLcge 30 23 26 rfl (show w64 0 = 0 from rfl) i10_22 rfl i10_23 rfl rfl ?_ ?_
  · refine vLln 31 i10_30 rfl rfl ?_
    refine vLneg 32 i10_31 rfl ?_
    exact fun hD => tLc [(0, .ref 15)] (xNdk [0] rfl (by decide)) (xNdk [0, 1] rfl (by decide)) ⟨rfl, trivial⟩ (c_x1_writeNum_32 N  hd  s (-x1) hD)
  · refine vLln 27 i10_26 rfl rfl ?_
    refine vGo 32 i10_27 rfl ?_
    exact fun hD => tLc [(0, .ref 15)] (xNdk [0] rfl (by decide)) (xNdk [0, 1] rfl (by decide)) ⟨rfl, trivial⟩ (c_x1_writeNum_32 N  hd  s x1 hD)
def d_x1_writeNum (N : Nat)  (s : St) (a0 : Int) : Option Rs :=
  bV (d_x1_writeBlank N  s ) fun s6 => (if (w64 a0) < 0 then bV (d_x1_writeByte N  s6 45) fun s8 => bV (d_x1_writeBlank N  s8 ) fun s10 => d_x1_writeNum_20 N  s10 a0 else d_x1_writeNum_20 N  s6 a0)
set_option maxHeartbeats 4000000 in
set_option maxRecDepth 100000 in
theorem c_x1_writeNum {sc : xS} {d : Nat} {R : Rs} (N : Nat)  (hd : 2 ≤ d)   (s : St) (a0 : Int) : d_x1_writeNum N  s a0 = some R → vT sc d 10 0 [(0, .ref 15), (1, vl a0)] [] s (fun r => r = qV R) := by
  obtain ⟨d, rfl⟩ : ∃ d', d = d' + 1 := ⟨d - 1, by omega⟩
  unfold d_x1_writeNum
  refine vLan 1 i10_0 rfl rfl ?_
  refine vCallV 4 [.ref 15] [] [(0, .ref 15)] i10_1 rfl (xlk0 l10_85) (Or.inl rfl) m7 rfl rfl (Nat.le_of_ble_eq_true rfl) (Nat.le_of_ble_eq_true rfl) (Nat.le_of_ble_eq_true rfl) (xh0 sh_15 (by decide)) rfl rfl (fun R1 => c_x1_writeBlank N   (by omega) s ) (fun s6 => ?_)
  refine vLln 5 i10_4 rfl rfl ?_
  refine vKl 6 0 i10_5 (by decide) rfl ?_
  refine vLcge 20 7 10 rfl (show w64 0 = 0 from rfl) i10_6 rfl i10_7 rfl rfl ?_ ?_
  · exact fun hD => c_x1_writeNum_20 N  hd  s6 a0 hD
  · refine vLan 11 i10_10 rfl rfl ?_
    refine vKb 13 i10_11 (by decide) rfl ?_
    refine vCallV 16 [.ref 15, vi 45] [] [(0, .ref 15), (1, vi 45)] i10_13 rfl (xlk0 l10_88) (Or.inl rfl) m8 rfl rfl (Nat.le_of_ble_eq_true rfl) (Nat.le_of_ble_eq_true rfl) (Nat.le_of_ble_eq_true rfl) (xh0 sh_15 (by decide)) rfl rfl (fun R1 => c_x1_writeByte N   (by omega) s6 45) (fun s8 => ?_)
    refine vLan 17 i10_16 rfl rfl ?_
    refine vCallV 20 [.ref 15] [] [(0, .ref 15)] i10_17 rfl (xlk0 l10_85) (Or.inl rfl) m7 rfl rfl (Nat.le_of_ble_eq_true rfl) (Nat.le_of_ble_eq_true rfl) (Nat.le_of_ble_eq_true rfl) (xh0 sh_15 (by decide)) rfl rfl (fun R1 => c_x1_writeBlank N   (by omega) s8 ) (fun s10 => ?_)
    exact fun hD => c_x1_writeNum_20 N  hd  s10 a0 hD
theorem i13_0 : xIns xg 13 0 = some (.aload_n 0) := by decide +kernel
theorem i13_1 : xIns xg 13 1 = some (.invokevirtual 85) := by decide +kernel
theorem i13_4 : xIns xg 13 4 = some (.aload_n 0) := by decide +kernel
theorem i13_5 : xIns xg 13 5 = some (.iload_n 1) := by decide +kernel
theorem i13_6 : xIns xg 13 6 = some (.invokevirtual 88) := by decide +kernel
theorem i13_9 : xIns xg 13 9 = some (.return_) := by decide +kernel
theorem m13 : (xMet xg 13).2.2 = (2, none) := by decide +kernel
def d_x1_writeSign (N : Nat)  (s : St) (a0 : Int) : Option Rs :=
  bV (d_x1_writeBlank N  s ) fun s1 => bV (d_x1_writeByte N  s1 a0) fun s3 => some (s3, 0)
set_option maxHeartbeats 4000000 in
set_option maxRecDepth 100000 in
theorem c_x1_writeSign {sc : xS} {d : Nat} {R : Rs} (N : Nat)  (hd : 2 ≤ d)   (s : St) (a0 : Int) : d_x1_writeSign N  s a0 = some R → vT sc d 13 0 [(0, .ref 15), (1, vi a0)] [] s (fun r => r = qV R) := by
  obtain ⟨d, rfl⟩ : ∃ d', d = d' + 1 := ⟨d - 1, by omega⟩
  unfold d_x1_writeSign
  refine vLan 1 i13_0 rfl rfl ?_
  refine vCallV 4 [.ref 15] [] [(0, .ref 15)] i13_1 rfl (xlk0 l13_85) (Or.inl rfl) m7 rfl rfl (Nat.le_of_ble_eq_true rfl) (Nat.le_of_ble_eq_true rfl) (Nat.le_of_ble_eq_true rfl) (xh0 sh_15 (by decide)) rfl rfl (fun R1 => c_x1_writeBlank N   (by omega) s ) (fun s1 => ?_)
  refine vLan 5 i13_4 rfl rfl ?_
  refine vLin 6 i13_5 rfl rfl ?_
  refine vCallV 9 [.ref 15, vi a0] [] [(0, .ref 15), (1, vi a0)] i13_6 rfl (xlk0 l13_88) (Or.inl rfl) m8 rfl rfl (Nat.le_of_ble_eq_true rfl) (Nat.le_of_ble_eq_true rfl) (Nat.le_of_ble_eq_true rfl) (xh0 sh_15 (by decide)) rfl rfl (fun R1 => c_x1_writeByte N   (by omega) s1 a0) (fun s3 => ?_)
  exact vR0 i13_9 m13
theorem f11_78 : xFld xg 11 78 = some (4, 6) := by decide +kernel
theorem f11_81 : xFld xg 11 81 = some (4, 7) := by decide +kernel
theorem i11_22 : xIns xg 11 22 = some (.aload_n 0) := by decide +kernel
theorem i11_23 : xIns xg 11 23 = some (.aload_n 1) := by decide +kernel
theorem i11_24 : xIns xg 11 24 = some (.getfield 81) := by decide +kernel
theorem i11_27 : xIns xg 11 27 = some (.iload_n 2) := by decide +kernel
theorem i11_28 : xIns xg 11 28 = some (.bipush 8) := by decide +kernel
theorem i11_30 : xIns xg 11 30 = some (.imul) := by decide +kernel
theorem i11_31 : xIns xg 11 31 = some (.iload_n 3) := by decide +kernel
theorem i11_32 : xIns xg 11 32 = some (.iadd) := by decide +kernel
theorem i11_33 : xIns xg 11 33 = some (.laload) := by decide +kernel
theorem i11_34 : xIns xg 11 34 = some (.invokevirtual 71) := by decide +kernel
theorem i11_37 : xIns xg 11 37 = some (.iinc 3 1) := by decide +kernel
theorem m11 : (xMet xg 11).2.2 = (4, none) := by decide +kernel
theorem i11_40 : xIns xg 11 40 = some (.goto (-38)) := by decide +kernel
theorem i11_2 : xIns xg 11 2 = some (.iload_n 3) := by decide +kernel
theorem i11_3 : xIns xg 11 3 = some (.aload_n 1) := by decide +kernel
theorem i11_4 : xIns xg 11 4 = some (.getfield 78) := by decide +kernel
theorem i11_7 : xIns xg 11 7 = some (.iload_n 2) := by decide +kernel
theorem i11_8 : xIns xg 11 8 = some (.iaload) := by decide +kernel
theorem i11_9 : xIns xg 11 9 = some (.if_icmp .ge 34) := by decide +kernel
theorem i11_43 : xIns xg 11 43 = some (.return_) := by decide +kernel
theorem i11_12 : xIns xg 11 12 = some (.iload_n 3) := by decide +kernel
theorem i11_13 : xIns xg 11 13 = some (.ifCond .le 9) := by decide +kernel
theorem i11_16 : xIns xg 11 16 = some (.aload_n 0) := by decide +kernel
theorem i11_17 : xIns xg 11 17 = some (.bipush 44) := by decide +kernel
theorem i11_19 : xIns xg 11 19 = some (.invokevirtual 34) := by decide +kernel
theorem i11_0 : xIns xg 11 0 = some (.iconst 0) := by decide +kernel
theorem i11_1 : xIns xg 11 1 = some (.istore_n 3) := by decide +kernel
def d_x1_writeNums_22 (N : Nat) (k2 : St → Int → Int → Option Rs) (s : St) (x2 : Int) (x3 : Int) : Option Rs :=
  if 0 ≤ (w32 ((x2 * 8) + x3)) ∧ (w32 ((x2 * 8) + x3)) < ((1536 : Nat) : Int) then bV (d_x1_writeNum N  s (s 25 (Int.toNat (w32 ((x2 * 8) + x3))))) fun s1 => bd (x3 + 1) fun v3 => k2 s1 x2 v3 else none
set_option maxHeartbeats 4000000 in
set_option maxRecDepth 100000 in
theorem c_x1_writeNums_22 {sc : xS} {d : Nat} {R : Rs} (N : Nat)  (hd : 3 ≤ d) (k2 : St → Int → Int → Option Rs) (hk2 : ∀ (s : St) (x2 : Int) (x3 : Int), k2 s x2 x3 = some R → vT sc d 11 2 [(0, .ref 15), (1, .ref 17), (2, vi x2), (3, vi x3)] [] s (fun r => r = qV R))  (s : St) (x2 : Int) (x3 : Int) : d_x1_writeNums_22 N k2 s x2 x3 = some R → vT sc d 11 22 [(0, .ref 15), (1, .ref 17), (2, vi x2), (3, vi x3)] [] s (fun r => r = qV R) := by
  obtain ⟨d, rfl⟩ : ∃ d', d = d' + 1 := ⟨d - 1, by omega⟩
  unfold d_x1_writeNums_22
  refine vLan 23 i11_22 rfl rfl ?_
  refine vLan 24 i11_23 rfl rfl ?_
  refine vGetC 27 i11_24 f11_81 sh_17 rfl rfl ?_
  refine vLin 28 i11_27 rfl rfl ?_
  refine vKb 30 i11_28 (by decide) rfl ?_
  refine vImul 31 i11_30 rfl ?_
  refine vLin 32 i11_31 rfl rfl ?_
  refine vIadd 33 i11_32 rfl ?_
  refine vLal 34 rfl i11_33 sh_25 rfl ?_
  refine vCallV 37 [.ref 15, vl (s 25 (Int.toNat (w32 ((x2 * 8) + x3))))] [] [(0, .ref 15), (1, vl (s 25 (Int.toNat (w32 ((x2 * 8) + x3)))))] i11_34 rfl (xlk0 l11_71) (Or.inl rfl) m10 rfl rfl (Nat.le_of_ble_eq_true rfl) (Nat.le_of_ble_eq_true rfl) (Nat.le_of_ble_eq_true rfl) (xh0 sh_15 (by decide)) rfl rfl (fun R1 => c_x1_writeNum N   (by omega) s (s 25 (Int.toNat (w32 ((x2 * 8) + x3))))) (fun s1 => ?_)
  refine vInc 40 (fun v3 => [(3, vi v3), (0, .ref 15), (1, .ref 17), (2, vi x2)]) i11_37 m11 (by decide) rfl (fun _ => rfl) rfl (fun v3 => ?_)
  refine vGo 2 i11_40 rfl ?_
  exact fun hD => tLc [(0, .ref 15), (1, .ref 17), (2, vi x2), (3, vi v3)] (xNdk [0, 1, 2, 3] rfl (by decide)) (xNdk [3, 0, 1, 2] rfl (by decide)) ⟨rfl, rfl, rfl, rfl, trivial⟩ (hk2 s1 x2 v3 hD)
def d_x1_writeNums_2 (N : Nat)  (k2 : St → Int → Int → Option Rs) (s : St) (x2 : Int) (x3 : Int) : Option Rs :=
  if 0 ≤ (w32 x2) ∧ (w32 x2) < ((192 : Nat) : Int) then (if (w32 x3) < (w32 (s 24 (Int.toNat (w32 x2)))) then (if 0 < (w32 x3) then bV (d_x1_writeSign N  s 44) fun s4 => d_x1_writeNums_22 N k2 s4 x2 x3 else d_x1_writeNums_22 N k2 s x2 x3) else some (s, 0)) else none
def d_x1_writeNums_2L (N : Nat)  : Nat → St → Int → Int → Option Rs
  | 0 => fun _ _ _ => none
  | n + 1 => d_x1_writeNums_2 N  (d_x1_writeNums_2L N  n)
set_option maxHeartbeats 4000000 in
set_option maxRecDepth 100000 in
theorem c_x1_writeNums_2 {sc : xS} {d : Nat} {R : Rs} (N : Nat)  (hd : 3 ≤ d)   (k2 : St → Int → Int → Option Rs) (hk2 : ∀ (s : St) (x2 : Int) (x3 : Int), k2 s x2 x3 = some R → vT sc d 11 2 [(0, .ref 15), (1, .ref 17), (2, vi x2), (3, vi x3)] [] s (fun r => r = qV R)) (s : St) (x2 : Int) (x3 : Int) : d_x1_writeNums_2 N  k2 s x2 x3 = some R → vT sc d 11 2 [(0, .ref 15), (1, .ref 17), (2, vi x2), (3, vi x3)] [] s (fun r => r = qV R) := by
  obtain ⟨d, rfl⟩ : ∃ d', d = d' + 1 := ⟨d - 1, by omega⟩
  unfold d_x1_writeNums_2
  refine vLin 3 i11_2 rfl rfl ?_
  refine vLan 4 i11_3 rfl rfl ?_
  refine vGetC 7 i11_4 f11_78 sh_17 rfl rfl ?_
  refine vLin 8 i11_7 rfl rfl ?_
  refine vIal 9 rfl i11_8 sh_24 rfl ?_
  refine vCge 43 12 rfl rfl i11_9 rfl rfl ?_ ?_
  · exact vR0 i11_43 m11
  · refine vLin 13 i11_12 rfl rfl ?_
    refine vZle 22 16 rfl i11_13 rfl rfl ?_ ?_
    · exact fun hD => c_x1_writeNums_22 N  hd k2 hk2 s x2 x3 hD
    · refine vLan 17 i11_16 rfl rfl ?_
      refine vKb 19 i11_17 (by decide) rfl ?_
      refine vCallV 22 [.ref 15, vi 44] [] [(0, .ref 15), (1, vi 44)] i11_19 rfl (xlk0 l11_34) (Or.inl rfl) m13 rfl rfl (Nat.le_of_ble_eq_true rfl) (Nat.le_of_ble_eq_true rfl) (Nat.le_of_ble_eq_true rfl) (xh0 sh_15 (by decide)) rfl rfl (fun R1 => c_x1_writeSign N   (by omega) s 44) (fun s4 => ?_)
      exact fun hD => c_x1_writeNums_22 N  hd k2 hk2 s4 x2 x3 hD
theorem c_x1_writeNums_2L {sc : xS} {d : Nat} {R : Rs} (N : Nat)  (hd : 3 ≤ d)   : ∀ (n : Nat) (s : St) (x2 : Int) (x3 : Int), d_x1_writeNums_2L N  n s x2 x3 = some R → vT sc d 11 2 [(0, .ref 15), (1, .ref 17), (2, vi x2), (3, vi x3)] [] s (fun r => r = qV R) := by
  intro n
  induction n with
  | zero => intro s x2 x3 hD; cases hD
  | succ n ih => intro s x2 x3 hD; exact c_x1_writeNums_2 N  hd  _ ih s x2 x3 hD
def d_x1_writeNums (N : Nat)  (s : St) (a1 : Int) : Option Rs :=
  d_x1_writeNums_2L N  N s a1 0
set_option maxHeartbeats 4000000 in
set_option maxRecDepth 100000 in
theorem c_x1_writeNums {sc : xS} {d : Nat} {R : Rs} (N : Nat)  (hd : 3 ≤ d)   (s : St) (a1 : Int) : d_x1_writeNums N  s a1 = some R → vT sc d 11 0 [(0, .ref 15), (1, .ref 17), (2, vi a1)] [] s (fun r => r = qV R) := by
  obtain ⟨d, rfl⟩ : ∃ d', d = d' + 1 := ⟨d - 1, by omega⟩
  unfold d_x1_writeNums
  refine vK 1 i11_0 rfl ?_
  refine vSin0 2 [(3, vi 0), (0, .ref 15), (1, .ref 17), (2, vi a1)] i11_1 m11 (by decide) rfl rfl ?_
  exact fun hD => tLc [(0, .ref 15), (1, .ref 17), (2, vi a1), (3, vi 0)] (xNdk [0, 1, 2, 3] rfl (by decide)) (xNdk [3, 0, 1, 2] rfl (by decide)) ⟨rfl, rfl, rfl, rfl, trivial⟩ (c_x1_writeNums_2L N  hd  N s a1 0 hD)
theorem f9_31 : xFld xg 9 31 = some (4, 3) := by decide +kernel
theorem f9_68 : xFld xg 9 68 = some (4, 4) := by decide +kernel
theorem f9_65 : xFld xg 9 65 = some (4, 2) := by decide +kernel
theorem i9_0 : xIns xg 9 0 = some (.iload_n 3) := by decide +kernel
theorem i9_1 : xIns xg 9 1 = some (.tableswitch 87 108 116 #[78, 87, 87, 51, 87, 87, 87, 64, 51]) := by decide +kernel
theorem i9_79 : xIns xg 9 79 = some (.aload_n 0) := by decide +kernel
theorem i9_80 : xIns xg 9 80 = some (.aload_n 1) := by decide +kernel
theorem i9_81 : xIns xg 9 81 = some (.iload_n 2) := by decide +kernel
theorem i9_82 : xIns xg 9 82 = some (.invokevirtual 75) := by decide +kernel
theorem i9_85 : xIns xg 9 85 = some (.goto 14) := by decide +kernel
theorem i9_99 : xIns xg 9 99 = some (.return_) := by decide +kernel
theorem m9 : (xMet xg 9).2.2 = (4, none) := by decide +kernel
theorem i9_52 : xIns xg 9 52 = some (.aload_n 0) := by decide +kernel
theorem i9_53 : xIns xg 9 53 = some (.aload_n 1) := by decide +kernel
theorem i9_54 : xIns xg 9 54 = some (.getfield 65) := by decide +kernel
theorem i9_57 : xIns xg 9 57 = some (.iload_n 2) := by decide +kernel
theorem i9_58 : xIns xg 9 58 = some (.iaload) := by decide +kernel
theorem i9_59 : xIns xg 9 59 = some (.invokevirtual 34) := by decide +kernel
theorem i9_62 : xIns xg 9 62 = some (.goto 37) := by decide +kernel
theorem i9_65 : xIns xg 9 65 = some (.aload_n 0) := by decide +kernel
theorem i9_66 : xIns xg 9 66 = some (.aload_n 1) := by decide +kernel
theorem i9_67 : xIns xg 9 67 = some (.getfield 68) := by decide +kernel
theorem i9_70 : xIns xg 9 70 = some (.iload_n 2) := by decide +kernel
theorem i9_71 : xIns xg 9 71 = some (.iaload) := by decide +kernel
theorem i9_72 : xIns xg 9 72 = some (.i2l) := by decide +kernel
theorem i9_73 : xIns xg 9 73 = some (.invokevirtual 71) := by decide +kernel
theorem i9_76 : xIns xg 9 76 = some (.goto 23) := by decide +kernel
theorem i9_88 : xIns xg 9 88 = some (.aload_n 0) := by decide +kernel
theorem i9_89 : xIns xg 9 89 = some (.aload_n 1) := by decide +kernel
theorem i9_90 : xIns xg 9 90 = some (.getfield 31) := by decide +kernel
theorem i9_93 : xIns xg 9 93 = some (.iload_n 2) := by decide +kernel
theorem i9_94 : xIns xg 9 94 = some (.iaload) := by decide +kernel
theorem i9_95 : xIns xg 9 95 = some (.i2l) := by decide +kernel
theorem i9_96 : xIns xg 9 96 = some (.invokevirtual 71) := by decide +kernel
def d_x1_writeField (N : Nat)  (s : St) (a1 : Int) (a2 : Int) : Option Rs :=
  (if (w32 a2) = 108 then bV (d_x1_writeNums N  s a1) fun s1 => some (s1, 0) else (if (w32 a2) = 111 then if 0 ≤ (w32 a1) ∧ (w32 a1) < ((192 : Nat) : Int) then bV (d_x1_writeSign N  s (s 20 (Int.toNat (w32 a1)))) fun s3 => some (s3, 0) else none else (if (w32 a2) = 115 then if 0 ≤ (w32 a1) ∧ (w32 a1) < ((192 : Nat) : Int) then bV (d_x1_writeNum N  s (w32 (s 22 (Int.toNat (w32 a1))))) fun s5 => some (s5, 0) else none else (if (w32 a2) = 116 then if 0 ≤ (w32 a1) ∧ (w32 a1) < ((192 : Nat) : Int) then bV (d_x1_writeSign N  s (s 20 (Int.toNat (w32 a1)))) fun s7 => some (s7, 0) else none else (if (w32 a2) = 109 then if 0 ≤ (w32 a1) ∧ (w32 a1) < ((192 : Nat) : Int) then bV (d_x1_writeNum N  s (w32 (s 21 (Int.toNat (w32 a1))))) fun s9 => some (s9, 0) else none else (if (w32 a2) = 110 then if 0 ≤ (w32 a1) ∧ (w32 a1) < ((192 : Nat) : Int) then bV (d_x1_writeNum N  s (w32 (s 21 (Int.toNat (w32 a1))))) fun s9 => some (s9, 0) else none else (if (w32 a2) = 112 then if 0 ≤ (w32 a1) ∧ (w32 a1) < ((192 : Nat) : Int) then bV (d_x1_writeNum N  s (w32 (s 21 (Int.toNat (w32 a1))))) fun s9 => some (s9, 0) else none else (if (w32 a2) = 113 then if 0 ≤ (w32 a1) ∧ (w32 a1) < ((192 : Nat) : Int) then bV (d_x1_writeNum N  s (w32 (s 21 (Int.toNat (w32 a1))))) fun s9 => some (s9, 0) else none else (if (w32 a2) = 114 then if 0 ≤ (w32 a1) ∧ (w32 a1) < ((192 : Nat) : Int) then bV (d_x1_writeNum N  s (w32 (s 21 (Int.toNat (w32 a1))))) fun s9 => some (s9, 0) else none else if 0 ≤ (w32 a1) ∧ (w32 a1) < ((192 : Nat) : Int) then bV (d_x1_writeNum N  s (w32 (s 21 (Int.toNat (w32 a1))))) fun s9 => some (s9, 0) else none)))))))))
set_option maxHeartbeats 4000000 in
set_option maxRecDepth 100000 in
theorem c_x1_writeField {sc : xS} {d : Nat} {R : Rs} (N : Nat)  (hd : 4 ≤ d)   (s : St) (a1 : Int) (a2 : Int) : d_x1_writeField N  s a1 a2 = some R → vT sc d 9 0 [(0, .ref 15), (1, .ref 17), (2, vi a1), (3, vi a2)] [] s (fun r => r = qV R) := by
  obtain ⟨d, rfl⟩ : ∃ d', d = d' + 1 := ⟨d - 1, by omega⟩
  unfold d_x1_writeField
  refine vLin 1 i9_0 rfl rfl ?_
  refine vSw 79 (v := 108) rfl i9_1 rfl rfl ?_ (fun h108 => ?_)
  · refine vLan 80 i9_79 rfl rfl ?_
    refine vLan 81 i9_80 rfl rfl ?_
    refine vLin 82 i9_81 rfl rfl ?_
    refine vCallV 85 [.ref 15, .ref 17, vi a1] [] [(0, .ref 15), (1, .ref 17), (2, vi a1)] i9_82 rfl (xlk0 l9_75) (Or.inl rfl) m11 rfl rfl (Nat.le_of_ble_eq_true rfl) (Nat.le_of_ble_eq_true rfl) (Nat.le_of_ble_eq_true rfl) (xh0 sh_15 (by decide)) rfl rfl (fun R1 => c_x1_writeNums N   (by omega) s a1) (fun s1 => ?_)
    refine vGo 99 i9_85 rfl ?_
    exact vR0 i9_99 m9
  refine vSw 52 (v := 111) rfl i9_1 rfl rfl ?_ (fun h111 => ?_)
  · refine vLan 53 i9_52 rfl rfl ?_
    refine vLan 54 i9_53 rfl rfl ?_
    refine vGetC 57 i9_54 f9_65 sh_17 rfl rfl ?_
    refine vLin 58 i9_57 rfl rfl ?_
    refine vIal 59 rfl i9_58 sh_20 rfl ?_
    refine vCallV 62 [.ref 15, vi (s 20 (Int.toNat (w32 a1)))] [] [(0, .ref 15), (1, vi (s 20 (Int.toNat (w32 a1))))] i9_59 rfl (xlk0 l9_34) (Or.inl rfl) m13 rfl rfl (Nat.le_of_ble_eq_true rfl) (Nat.le_of_ble_eq_true rfl) (Nat.le_of_ble_eq_true rfl) (xh0 sh_15 (by decide)) rfl rfl (fun R1 => c_x1_writeSign N   (by omega) s (s 20 (Int.toNat (w32 a1)))) (fun s3 => ?_)
    refine vGo 99 i9_62 rfl ?_
    exact vR0 i9_99 m9
  refine vSw 65 (v := 115) rfl i9_1 rfl rfl ?_ (fun h115 => ?_)
  · refine vLan 66 i9_65 rfl rfl ?_
    refine vLan 67 i9_66 rfl rfl ?_
    refine vGetC 70 i9_67 f9_68 sh_17 rfl rfl ?_
    refine vLin 71 i9_70 rfl rfl ?_
    refine vIal 72 rfl i9_71 sh_22 rfl ?_
    refine vI2l 73 i9_72 rfl ?_
    refine vCallV 76 [.ref 15, vl (w32 (s 22 (Int.toNat (w32 a1))))] [] [(0, .ref 15), (1, vl (w32 (s 22 (Int.toNat (w32 a1)))))] i9_73 rfl (xlk0 l9_71) (Or.inl rfl) m10 rfl rfl (Nat.le_of_ble_eq_true rfl) (Nat.le_of_ble_eq_true rfl) (Nat.le_of_ble_eq_true rfl) (xh0 sh_15 (by decide)) rfl rfl (fun R1 => c_x1_writeNum N   (by omega) s (w32 (s 22 (Int.toNat (w32 a1))))) (fun s5 => ?_)
    refine vGo 99 i9_76 rfl ?_
    exact vR0 i9_99 m9
  refine vSw 52 (v := 116) rfl i9_1 rfl rfl ?_ (fun h116 => ?_)
  · refine vLan 53 i9_52 rfl rfl ?_
    refine vLan 54 i9_53 rfl rfl ?_
    refine vGetC 57 i9_54 f9_65 sh_17 rfl rfl ?_
    refine vLin 58 i9_57 rfl rfl ?_
    refine vIal 59 rfl i9_58 sh_20 rfl ?_
    refine vCallV 62 [.ref 15, vi (s 20 (Int.toNat (w32 a1)))] [] [(0, .ref 15), (1, vi (s 20 (Int.toNat (w32 a1))))] i9_59 rfl (xlk0 l9_34) (Or.inl rfl) m13 rfl rfl (Nat.le_of_ble_eq_true rfl) (Nat.le_of_ble_eq_true rfl) (Nat.le_of_ble_eq_true rfl) (xh0 sh_15 (by decide)) rfl rfl (fun R1 => c_x1_writeSign N   (by omega) s (s 20 (Int.toNat (w32 a1)))) (fun s7 => ?_)
    refine vGo 99 i9_62 rfl ?_
    exact vR0 i9_99 m9
  refine vSw 88 (v := 109) rfl i9_1 rfl rfl ?_ (fun h109 => ?_)
  · refine vLan 89 i9_88 rfl rfl ?_
    refine vLan 90 i9_89 rfl rfl ?_
    refine vGetC 93 i9_90 f9_31 sh_17 rfl rfl ?_
    refine vLin 94 i9_93 rfl rfl ?_
    refine vIal 95 rfl i9_94 sh_21 rfl ?_
    refine vI2l 96 i9_95 rfl ?_
    refine vCallV 99 [.ref 15, vl (w32 (s 21 (Int.toNat (w32 a1))))] [] [(0, .ref 15), (1, vl (w32 (s 21 (Int.toNat (w32 a1)))))] i9_96 rfl (xlk0 l9_71) (Or.inl rfl) m10 rfl rfl (Nat.le_of_ble_eq_true rfl) (Nat.le_of_ble_eq_true rfl) (Nat.le_of_ble_eq_true rfl) (xh0 sh_15 (by decide)) rfl rfl (fun R1 => c_x1_writeNum N   (by omega) s (w32 (s 21 (Int.toNat (w32 a1))))) (fun s9 => ?_)
    exact vR0 i9_99 m9
  refine vSw 88 (v := 110) rfl i9_1 rfl rfl ?_ (fun h110 => ?_)
  · refine vLan 89 i9_88 rfl rfl ?_
    refine vLan 90 i9_89 rfl rfl ?_
    refine vGetC 93 i9_90 f9_31 sh_17 rfl rfl ?_
    refine vLin 94 i9_93 rfl rfl ?_
    refine vIal 95 rfl i9_94 sh_21 rfl ?_
    refine vI2l 96 i9_95 rfl ?_
    refine vCallV 99 [.ref 15, vl (w32 (s 21 (Int.toNat (w32 a1))))] [] [(0, .ref 15), (1, vl (w32 (s 21 (Int.toNat (w32 a1)))))] i9_96 rfl (xlk0 l9_71) (Or.inl rfl) m10 rfl rfl (Nat.le_of_ble_eq_true rfl) (Nat.le_of_ble_eq_true rfl) (Nat.le_of_ble_eq_true rfl) (xh0 sh_15 (by decide)) rfl rfl (fun R1 => c_x1_writeNum N   (by omega) s (w32 (s 21 (Int.toNat (w32 a1))))) (fun s9 => ?_)
    exact vR0 i9_99 m9
  refine vSw 88 (v := 112) rfl i9_1 rfl rfl ?_ (fun h112 => ?_)
  · refine vLan 89 i9_88 rfl rfl ?_
    refine vLan 90 i9_89 rfl rfl ?_
    refine vGetC 93 i9_90 f9_31 sh_17 rfl rfl ?_
    refine vLin 94 i9_93 rfl rfl ?_
    refine vIal 95 rfl i9_94 sh_21 rfl ?_
    refine vI2l 96 i9_95 rfl ?_
    refine vCallV 99 [.ref 15, vl (w32 (s 21 (Int.toNat (w32 a1))))] [] [(0, .ref 15), (1, vl (w32 (s 21 (Int.toNat (w32 a1)))))] i9_96 rfl (xlk0 l9_71) (Or.inl rfl) m10 rfl rfl (Nat.le_of_ble_eq_true rfl) (Nat.le_of_ble_eq_true rfl) (Nat.le_of_ble_eq_true rfl) (xh0 sh_15 (by decide)) rfl rfl (fun R1 => c_x1_writeNum N   (by omega) s (w32 (s 21 (Int.toNat (w32 a1))))) (fun s9 => ?_)
    exact vR0 i9_99 m9
  refine vSw 88 (v := 113) rfl i9_1 rfl rfl ?_ (fun h113 => ?_)
  · refine vLan 89 i9_88 rfl rfl ?_
    refine vLan 90 i9_89 rfl rfl ?_
    refine vGetC 93 i9_90 f9_31 sh_17 rfl rfl ?_
    refine vLin 94 i9_93 rfl rfl ?_
    refine vIal 95 rfl i9_94 sh_21 rfl ?_
    refine vI2l 96 i9_95 rfl ?_
    refine vCallV 99 [.ref 15, vl (w32 (s 21 (Int.toNat (w32 a1))))] [] [(0, .ref 15), (1, vl (w32 (s 21 (Int.toNat (w32 a1)))))] i9_96 rfl (xlk0 l9_71) (Or.inl rfl) m10 rfl rfl (Nat.le_of_ble_eq_true rfl) (Nat.le_of_ble_eq_true rfl) (Nat.le_of_ble_eq_true rfl) (xh0 sh_15 (by decide)) rfl rfl (fun R1 => c_x1_writeNum N   (by omega) s (w32 (s 21 (Int.toNat (w32 a1))))) (fun s9 => ?_)
    exact vR0 i9_99 m9
  refine vSw 88 (v := 114) rfl i9_1 rfl rfl ?_ (fun h114 => ?_)
  · refine vLan 89 i9_88 rfl rfl ?_
    refine vLan 90 i9_89 rfl rfl ?_
    refine vGetC 93 i9_90 f9_31 sh_17 rfl rfl ?_
    refine vLin 94 i9_93 rfl rfl ?_
    refine vIal 95 rfl i9_94 sh_21 rfl ?_
    refine vI2l 96 i9_95 rfl ?_
    refine vCallV 99 [.ref 15, vl (w32 (s 21 (Int.toNat (w32 a1))))] [] [(0, .ref 15), (1, vl (w32 (s 21 (Int.toNat (w32 a1)))))] i9_96 rfl (xlk0 l9_71) (Or.inl rfl) m10 rfl rfl (Nat.le_of_ble_eq_true rfl) (Nat.le_of_ble_eq_true rfl) (Nat.le_of_ble_eq_true rfl) (xh0 sh_15 (by decide)) rfl rfl (fun R1 => c_x1_writeNum N   (by omega) s (w32 (s 21 (Int.toNat (w32 a1))))) (fun s9 => ?_)
    exact vR0 i9_99 m9
  refine vSwD 88 i9_1 (by omega) rfl ?_
  refine vLan 89 i9_88 rfl rfl ?_
  refine vLan 90 i9_89 rfl rfl ?_
  refine vGetC 93 i9_90 f9_31 sh_17 rfl rfl ?_
  refine vLin 94 i9_93 rfl rfl ?_
  refine vIal 95 rfl i9_94 sh_21 rfl ?_
  refine vI2l 96 i9_95 rfl ?_
  refine vCallV 99 [.ref 15, vl (w32 (s 21 (Int.toNat (w32 a1))))] [] [(0, .ref 15), (1, vl (w32 (s 21 (Int.toNat (w32 a1)))))] i9_96 rfl (xlk0 l9_71) (Or.inl rfl) m10 rfl rfl (Nat.le_of_ble_eq_true rfl) (Nat.le_of_ble_eq_true rfl) (Nat.le_of_ble_eq_true rfl) (xh0 sh_15 (by decide)) rfl rfl (fun R1 => c_x1_writeNum N   (by omega) s (w32 (s 21 (Int.toNat (w32 a1))))) (fun s9 => ?_)
  exact vR0 i9_99 m9
theorem i15_6 : xIns xg 15 6 = some (.iload_n 2) := by decide +kernel
theorem i15_7 : xIns xg 15 7 = some (.aload_n 1) := by decide +kernel
theorem i15_8 : xIns xg 15 8 = some (.invokevirtual 51) := by decide +kernel
theorem i15_11 : xIns xg 15 11 = some (.if_icmp .ge 18) := by decide +kernel
theorem i15_29 : xIns xg 15 29 = some (.return_) := by decide +kernel
theorem m15 : (xMet xg 15).2.2 = (3, none) := by decide +kernel
theorem i15_14 : xIns xg 15 14 = some (.aload_n 0) := by decide +kernel
theorem i15_15 : xIns xg 15 15 = some (.aload_n 1) := by decide +kernel
theorem i15_16 : xIns xg 15 16 = some (.iload_n 2) := by decide +kernel
theorem i15_17 : xIns xg 15 17 = some (.invokevirtual 57) := by decide +kernel
theorem i15_20 : xIns xg 15 20 = some (.invokevirtual 88) := by decide +kernel
theorem i15_23 : xIns xg 15 23 = some (.iinc 2 1) := by decide +kernel
theorem i15_26 : xIns xg 15 26 = some (.goto (-20)) := by decide +kernel
theorem i15_0 : xIns xg 15 0 = some (.aload_n 0) := by decide +kernel
theorem i15_1 : xIns xg 15 1 = some (.invokevirtual 85) := by decide +kernel
theorem i15_4 : xIns xg 15 4 = some (.iconst 0) := by decide +kernel
theorem i15_5 : xIns xg 15 5 = some (.istore_n 2) := by decide +kernel
def d_x1_writeWord_6 (N : Nat)  (k6 : St → Nat → Int → Option Rs) (s : St) (y1 : Nat) (x2 : Int) : Option Rs :=
  if y1 = 1000 then none else if y1 % 2 = 1 ∧ y1 / 2 < 25 then bI (d_j0_length_8abf5 N  s y1) fun s1 v2 => (if (w32 x2) < (w32 v2) then if y1 = 1000 then none else if y1 % 2 = 1 ∧ y1 / 2 < 25 then bI (d_j0_charAt_5068e N  s1 y1 x2) fun s3 v4 => bV (d_x1_writeByte N  s3 v4) fun s5 => bd (x2 + 1) fun v7 => k6 s5 y1 v7 else none else some (s1, 0)) else none
def d_x1_writeWord_6L (N : Nat)  : Nat → St → Nat → Int → Option Rs
  | 0 => fun _ _ _ => none
  | n + 1 => d_x1_writeWord_6 N  (d_x1_writeWord_6L N  n)
set_option maxHeartbeats 4000000 in
set_option maxRecDepth 100000 in
theorem c_x1_writeWord_6 {sc : xS} {d : Nat} {R : Rs} (N : Nat)  (hd : 4 ≤ d)   (k6 : St → Nat → Int → Option Rs) (hk6 : ∀ (s : St) (y1 : Nat) (x2 : Int), k6 s y1 x2 = some R → vT sc d 15 6 [(0, .ref 15), (1, .retAddr y1), (2, vi x2)] [] s (fun r => r = qV R)) (s : St) (y1 : Nat) (x2 : Int) : d_x1_writeWord_6 N  k6 s y1 x2 = some R → vT sc d 15 6 [(0, .ref 15), (1, .retAddr y1), (2, vi x2)] [] s (fun r => r = qV R) := by
  obtain ⟨d, rfl⟩ : ∃ d', d = d' + 1 := ⟨d - 1, by omega⟩
  unfold d_x1_writeWord_6
  refine vLin 7 i15_6 rfl rfl ?_
  refine vLsn 8 i15_7 rfl rfl ?_
  refine vX98 (e := y1) (fun hx98 => ?_)
  refine vCallI 11 [.retAddr y1] [vi x2] [(0, .retAddr y1)] i15_8 rfl (xlk0 l15_51) (Or.inl rfl) m204 rfl rfl (Nat.le_of_ble_eq_true rfl) (Nat.le_of_ble_eq_true rfl) (Nat.le_of_ble_eq_true rfl) (xh98 hx98) rfl rfl (fun R1 => c_j0_length_8abf5 N   (by omega) s y1) (fun s1 v2 => ?_)
  refine vCge 29 14 rfl rfl i15_11 rfl rfl ?_ ?_
  · exact vR0 i15_29 m15
  · refine vLan 15 i15_14 rfl rfl ?_
    refine vLsn 16 i15_15 rfl rfl ?_
    refine vLin 17 i15_16 rfl rfl ?_
    refine vX98 (e := y1) (fun hx98 => ?_)
    refine vCallI 20 [.retAddr y1, vi x2] [.ref 15] [(0, .retAddr y1), (1, vi x2)] i15_17 rfl (xlk0 l15_57) (Or.inl rfl) m197 rfl rfl (Nat.le_of_ble_eq_true rfl) (Nat.le_of_ble_eq_true rfl) (Nat.le_of_ble_eq_true rfl) (xh98 hx98) rfl rfl (fun R1 => c_j0_charAt_5068e N   (by omega) s1 y1 x2) (fun s3 v4 => ?_)
    refine vCallV 23 [.ref 15, vi v4] [] [(0, .ref 15), (1, vi v4)] i15_20 rfl (xlk0 l15_88) (Or.inl rfl) m8 rfl rfl (Nat.le_of_ble_eq_true rfl) (Nat.le_of_ble_eq_true rfl) (Nat.le_of_ble_eq_true rfl) (xh0 sh_15 (by decide)) rfl rfl (fun R1 => c_x1_writeByte N   (by omega) s3 v4) (fun s5 => ?_)
    refine vInc 26 (fun v7 => [(2, vi v7), (0, .ref 15), (1, .retAddr y1)]) i15_23 m15 (by decide) rfl (fun _ => rfl) rfl (fun v7 => ?_)
    refine vGo 6 i15_26 rfl ?_
    exact fun hD => tLc [(0, .ref 15), (1, .retAddr y1), (2, vi v7)] (xNdk [0, 1, 2] rfl (by decide)) (xNdk [2, 0, 1] rfl (by decide)) ⟨rfl, rfl, rfl, trivial⟩ (hk6 s5 y1 v7 hD)
theorem c_x1_writeWord_6L {sc : xS} {d : Nat} {R : Rs} (N : Nat)  (hd : 4 ≤ d)   : ∀ (n : Nat) (s : St) (y1 : Nat) (x2 : Int), d_x1_writeWord_6L N  n s y1 x2 = some R → vT sc d 15 6 [(0, .ref 15), (1, .retAddr y1), (2, vi x2)] [] s (fun r => r = qV R) := by
  intro n
  induction n with
  | zero => intro s y1 x2 hD; cases hD
  | succ n ih => intro s y1 x2 hD; exact c_x1_writeWord_6 N  hd  _ ih s y1 x2 hD
def d_x1_writeWord (N : Nat)  (s : St) (e1 : Nat) : Option Rs :=
  bV (d_x1_writeBlank N  s ) fun s8 => d_x1_writeWord_6L N  N s8 e1 0
set_option maxHeartbeats 4000000 in
set_option maxRecDepth 100000 in
theorem c_x1_writeWord {sc : xS} {d : Nat} {R : Rs} (N : Nat)  (hd : 4 ≤ d)   (s : St) (e1 : Nat) : d_x1_writeWord N  s e1 = some R → vT sc d 15 0 [(0, .ref 15), (1, .retAddr e1)] [] s (fun r => r = qV R) := by
  obtain ⟨d, rfl⟩ : ∃ d', d = d' + 1 := ⟨d - 1, by omega⟩
  unfold d_x1_writeWord
  refine vLan 1 i15_0 rfl rfl ?_
  refine vCallV 4 [.ref 15] [] [(0, .ref 15)] i15_1 rfl (xlk0 l15_85) (Or.inl rfl) m7 rfl rfl (Nat.le_of_ble_eq_true rfl) (Nat.le_of_ble_eq_true rfl) (Nat.le_of_ble_eq_true rfl) (xh0 sh_15 (by decide)) rfl rfl (fun R1 => c_x1_writeBlank N   (by omega) s ) (fun s8 => ?_)
  refine vK 5 i15_4 rfl ?_
  refine vSin0 6 [(2, vi 0), (0, .ref 15), (1, .retAddr e1)] i15_5 m15 (by decide) rfl rfl ?_
  exact fun hD => tLc [(0, .ref 15), (1, .retAddr e1), (2, vi 0)] (xNdk [0, 1, 2] rfl (by decide)) (xNdk [2, 0, 1] rfl (by decide)) ⟨rfl, rfl, rfl, trivial⟩ (c_x1_writeWord_6L N  hd  N s8 e1 0 hD)
theorem f12_28 : xFld xg 12 28 = some (4, 1) := by decide +kernel
theorem f12_31 : xFld xg 12 31 = some (4, 3) := by decide +kernel
theorem i12_42 : xIns xg 12 42 = some (.iload 5) := by decide +kernel
theorem i12_44 : xIns xg 12 44 = some (.aload 4) := by decide +kernel
theorem i12_46 : xIns xg 12 46 = some (.invokevirtual 51) := by decide +kernel
theorem i12_49 : xIns xg 12 49 = some (.if_icmp .ge 22) := by decide +kernel
theorem i12_71 : xIns xg 12 71 = some (.return_) := by decide +kernel
theorem m12 : (xMet xg 12).2.2 = (6, none) := by decide +kernel
theorem i12_52 : xIns xg 12 52 = some (.aload_n 0) := by decide +kernel
theorem i12_53 : xIns xg 12 53 = some (.aload_n 1) := by decide +kernel
theorem i12_54 : xIns xg 12 54 = some (.iload_n 2) := by decide +kernel
theorem i12_55 : xIns xg 12 55 = some (.aload 4) := by decide +kernel
theorem i12_57 : xIns xg 12 57 = some (.iload 5) := by decide +kernel
theorem i12_59 : xIns xg 12 59 = some (.invokevirtual 57) := by decide +kernel
theorem i12_62 : xIns xg 12 62 = some (.invokevirtual 61) := by decide +kernel
theorem i12_65 : xIns xg 12 65 = some (.iinc 5 1) := by decide +kernel
theorem i12_68 : xIns xg 12 68 = some (.goto (-26)) := by decide +kernel
theorem i12_0 : xIns xg 12 0 = some (.aload_n 1) := by decide +kernel
theorem i12_1 : xIns xg 12 1 = some (.getfield 28) := by decide +kernel
theorem i12_4 : xIns xg 12 4 = some (.iload_n 2) := by decide +kernel
theorem i12_5 : xIns xg 12 5 = some (.iaload) := by decide +kernel
theorem i12_6 : xIns xg 12 6 = some (.istore_n 3) := by decide +kernel
theorem i12_7 : xIns xg 12 7 = some (.iload_n 3) := by decide +kernel
theorem i12_8 : xIns xg 12 8 = some (.ifCond .ne 17) := by decide +kernel
theorem i12_25 : xIns xg 12 25 = some (.aload_n 0) := by decide +kernel
theorem i12_26 : xIns xg 12 26 = some (.iload_n 3) := by decide +kernel
theorem i12_27 : xIns xg 12 27 = some (.invokestatic 38) := by decide +kernel
theorem i12_30 : xIns xg 12 30 = some (.invokevirtual 44) := by decide +kernel
theorem i12_33 : xIns xg 12 33 = some (.iload_n 3) := by decide +kernel
theorem i12_34 : xIns xg 12 34 = some (.invokestatic 48) := by decide +kernel
theorem i12_37 : xIns xg 12 37 = some (.astore 4) := by decide +kernel
theorem i12_39 : xIns xg 12 39 = some (.iconst 0) := by decide +kernel
theorem i12_40 : xIns xg 12 40 = some (.istore 5) := by decide +kernel
theorem i12_11 : xIns xg 12 11 = some (.aload_n 0) := by decide +kernel
theorem i12_12 : xIns xg 12 12 = some (.bipush 97) := by decide +kernel
theorem i12_14 : xIns xg 12 14 = some (.aload_n 1) := by decide +kernel
theorem i12_15 : xIns xg 12 15 = some (.getfield 31) := by decide +kernel
theorem i12_18 : xIns xg 12 18 = some (.iload_n 2) := by decide +kernel
theorem i12_19 : xIns xg 12 19 = some (.iaload) := by decide +kernel
theorem i12_20 : xIns xg 12 20 = some (.iadd) := by decide +kernel
theorem i12_21 : xIns xg 12 21 = some (.invokevirtual 34) := by decide +kernel
theorem i12_24 : xIns xg 12 24 = some (.return_) := by decide +kernel
def d_x1_writePart_42 (N : Nat)  (k42 : St → Int → Nat → Int → Option Rs) (s : St) (x2 : Int) (y4 : Nat) (x5 : Int) : Option Rs :=
  if y4 = 1000 then none else if y4 % 2 = 1 ∧ y4 / 2 < 25 then bI (d_j0_length_8abf5 N  s y4) fun s1 v2 => (if (w32 x5) < (w32 v2) then if y4 = 1000 then none else if y4 % 2 = 1 ∧ y4 / 2 < 25 then bI (d_j0_charAt_5068e N  s1 y4 x5) fun s3 v4 => bV (d_x1_writeField N  s3 x2 v4) fun s5 => bd (x5 + 1) fun v7 => k42 s5 x2 y4 v7 else none else some (s1, 0)) else none
def d_x1_writePart_42L (N : Nat)  : Nat → St → Int → Nat → Int → Option Rs
  | 0 => fun _ _ _ _ => none
  | n + 1 => d_x1_writePart_42 N  (d_x1_writePart_42L N  n)
set_option maxHeartbeats 4000000 in
set_option maxRecDepth 100000 in
theorem c_x1_writePart_42 {sc : xS} {d : Nat} {R : Rs} (N : Nat)  (hd : 5 ≤ d)   (k42 : St → Int → Nat → Int → Option Rs) (hk42 : ∀ (s : St) (x2 : Int) (y4 : Nat) (x5 : Int), k42 s x2 y4 x5 = some R → vT sc d 12 42 [(0, .ref 15), (1, .ref 17), (2, vi x2), (4, .retAddr y4), (5, vi x5)] [] s (fun r => r = qV R)) (s : St) (x2 : Int) (y4 : Nat) (x5 : Int) : d_x1_writePart_42 N  k42 s x2 y4 x5 = some R → vT sc d 12 42 [(0, .ref 15), (1, .ref 17), (2, vi x2), (4, .retAddr y4), (5, vi x5)] [] s (fun r => r = qV R) := by
  obtain ⟨d, rfl⟩ : ∃ d', d = d' + 1 := ⟨d - 1, by omega⟩
  unfold d_x1_writePart_42
  refine vLi 44 i12_42 rfl rfl ?_
  refine vLs 46 i12_44 rfl rfl ?_
  refine vX98 (e := y4) (fun hx98 => ?_)
  refine vCallI 49 [.retAddr y4] [vi x5] [(0, .retAddr y4)] i12_46 rfl (xlk0 l12_51) (Or.inl rfl) m204 rfl rfl (Nat.le_of_ble_eq_true rfl) (Nat.le_of_ble_eq_true rfl) (Nat.le_of_ble_eq_true rfl) (xh98 hx98) rfl rfl (fun R1 => c_j0_length_8abf5 N   (by omega) s y4) (fun s1 v2 => ?_)
  refine vCge 71 52 rfl rfl i12_49 rfl rfl ?_ ?_
  · exact vR0 i12_71 m12
  · refine vLan 53 i12_52 rfl rfl ?_
    refine vLan 54 i12_53 rfl rfl ?_
    refine vLin 55 i12_54 rfl rfl ?_
    refine vLs 57 i12_55 rfl rfl ?_
    refine vLi 59 i12_57 rfl rfl ?_
    refine vX98 (e := y4) (fun hx98 => ?_)
    refine vCallI 62 [.retAddr y4, vi x5] [vi x2, .ref 17, .ref 15] [(0, .retAddr y4), (1, vi x5)] i12_59 rfl (xlk0 l12_57) (Or.inl rfl) m197 rfl rfl (Nat.le_of_ble_eq_true rfl) (Nat.le_of_ble_eq_true rfl) (Nat.le_of_ble_eq_true rfl) (xh98 hx98) rfl rfl (fun R1 => c_j0_charAt_5068e N   (by omega) s1 y4 x5) (fun s3 v4 => ?_)
    refine vCallV 65 [.ref 15, .ref 17, vi x2, vi v4] [] [(0, .ref 15), (1, .ref 17), (2, vi x2), (3, vi v4)] i12_62 rfl (xlk0 l12_61) (Or.inl rfl) m9 rfl rfl (Nat.le_of_ble_eq_true rfl) (Nat.le_of_ble_eq_true rfl) (Nat.le_of_ble_eq_true rfl) (xh0 sh_15 (by decide)) rfl rfl (fun R1 => c_x1_writeField N   (by omega) s3 x2 v4) (fun s5 => ?_)
    refine vInc 68 (fun v7 => [(5, vi v7), (0, .ref 15), (1, .ref 17), (2, vi x2), (4, .retAddr y4)]) i12_65 m12 (by decide) rfl (fun _ => rfl) rfl (fun v7 => ?_)
    refine vGo 42 i12_68 rfl ?_
    exact fun hD => tLc [(0, .ref 15), (1, .ref 17), (2, vi x2), (4, .retAddr y4), (5, vi v7)] (xNdk [0, 1, 2, 4, 5] rfl (by decide)) (xNdk [5, 0, 1, 2, 4] rfl (by decide)) ⟨rfl, rfl, rfl, rfl, rfl, trivial⟩ (hk42 s5 x2 y4 v7 hD)
theorem c_x1_writePart_42L {sc : xS} {d : Nat} {R : Rs} (N : Nat)  (hd : 5 ≤ d)   : ∀ (n : Nat) (s : St) (x2 : Int) (y4 : Nat) (x5 : Int), d_x1_writePart_42L N  n s x2 y4 x5 = some R → vT sc d 12 42 [(0, .ref 15), (1, .ref 17), (2, vi x2), (4, .retAddr y4), (5, vi x5)] [] s (fun r => r = qV R) := by
  intro n
  induction n with
  | zero => intro s x2 y4 x5 hD; cases hD
  | succ n ih => intro s x2 y4 x5 hD; exact c_x1_writePart_42 N  hd  _ ih s x2 y4 x5 hD
def d_x1_writePart (N : Nat)  (s : St) (a1 : Int) : Option Rs :=
  if 0 ≤ (w32 a1) ∧ (w32 a1) < ((192 : Nat) : Int) then bd (s 19 (Int.toNat (w32 a1))) fun v8 => (if (w32 v8) = 0 then if 0 ≤ (w32 a1) ∧ (w32 a1) < ((192 : Nat) : Int) then bV (d_x1_writeSign N  s (97 + (s 21 (Int.toNat (w32 a1))))) fun s16 => some (s16, 0) else none else bS (d_x0_word N  s v8) fun s9 g10 => bV (d_x1_writeWord N  s9 g10) fun s11 => bS (d_x0_shape N  s11 v8) fun s13 g14 => if g14 = 1000 then none else bd g14 fun g15 => d_x1_writePart_42L N  N s13 a1 g15 0) else none
set_option maxHeartbeats 4000000 in
set_option maxRecDepth 100000 in
theorem c_x1_writePart {sc : xS} {d : Nat} {R : Rs} (N : Nat)  (hd : 5 ≤ d)   (s : St) (a1 : Int) : d_x1_writePart N  s a1 = some R → vT sc d 12 0 [(0, .ref 15), (1, .ref 17), (2, vi a1)] [] s (fun r => r = qV R) := by
  obtain ⟨d, rfl⟩ : ∃ d', d = d' + 1 := ⟨d - 1, by omega⟩
  unfold d_x1_writePart
  refine vLan 1 i12_0 rfl rfl ?_
  refine vGetC 4 i12_1 f12_28 sh_17 rfl rfl ?_
  refine vLin 5 i12_4 rfl rfl ?_
  refine vIal 6 rfl i12_5 sh_19 rfl ?_
  refine vSin 7 (fun v8 => [(3, vi v8), (0, .ref 15), (1, .ref 17), (2, vi a1)]) i12_6 m12 (by decide) (fun v8 => (rfl : xst1 [(0, .ref 15), (1, .ref 17), (2, vi a1)] 3 (vi v8) = [(3, vi v8), (0, .ref 15), (1, .ref 17), (2, vi a1)])) rfl (fun v8 => ?_)
  refine vLin 8 i12_7 rfl rfl ?_
  refine vZne 25 11 rfl i12_8 rfl rfl ?_ ?_
  · refine vLan 26 i12_25 rfl rfl ?_
    refine vLin 27 i12_26 rfl rfl ?_
    refine vCallS 30 [vi v8] [.ref 15] [(0, vi v8)] i12_27 rfl (xlk1 l12_38) (Or.inr (Or.inl rfl)) m5 rfl rfl (Nat.le_of_ble_eq_true rfl) (Nat.le_of_ble_eq_true rfl) (Nat.le_of_ble_eq_true rfl) rfl rfl rfl (fun R1 => c_x0_word N   (by omega) s v8) (fun s9 g10 => ?_)
    refine vCallV 33 [.ref 15, .retAddr g10] [] [(0, .ref 15), (1, .retAddr g10)] i12_30 rfl (xlk0 l12_44) (Or.inl rfl) m15 rfl rfl (Nat.le_of_ble_eq_true rfl) (Nat.le_of_ble_eq_true rfl) (Nat.le_of_ble_eq_true rfl) (xh0 sh_15 (by decide)) rfl rfl (fun R1 => c_x1_writeWord N   (by omega) s9 g10) (fun s11 => ?_)
    refine vLin 34 i12_33 rfl rfl ?_
    refine vCallS 37 [vi v8] [] [(0, vi v8)] i12_34 rfl (xlk1 l12_48) (Or.inr (Or.inl rfl)) m4 rfl rfl (Nat.le_of_ble_eq_true rfl) (Nat.le_of_ble_eq_true rfl) (Nat.le_of_ble_eq_true rfl) rfl rfl rfl (fun R1 => c_x0_shape N   (by omega) s11 v8) (fun s13 g14 => ?_)
    refine vSx 39 (fun g15 => [(4, .retAddr g15), (3, vi v8), (0, .ref 15), (1, .ref 17), (2, vi a1)]) i12_37 m12 (by decide) (fun _ => rfl) rfl (fun g15 => ?_)
    refine vK 40 i12_39 rfl ?_
    refine vSi0 42 [(5, vi 0), (4, .retAddr g15), (3, vi v8), (0, .ref 15), (1, .ref 17), (2, vi a1)] i12_40 m12 (by decide) rfl rfl ?_
    exact fun hD => tLc [(0, .ref 15), (1, .ref 17), (2, vi a1), (4, .retAddr g15), (5, vi 0)] (xNdk [0, 1, 2, 4, 5] rfl (by decide)) (xNdk [5, 4, 3, 0, 1, 2] rfl (by decide)) ⟨rfl, rfl, rfl, rfl, rfl, trivial⟩ (c_x1_writePart_42L N  hd  N s13 a1 g15 0 hD)
  · refine vLan 12 i12_11 rfl rfl ?_
    refine vKb 14 i12_12 (by decide) rfl ?_
    refine vLan 15 i12_14 rfl rfl ?_
    refine vGetC 18 i12_15 f12_31 sh_17 rfl rfl ?_
    refine vLin 19 i12_18 rfl rfl ?_
    refine vIal 20 rfl i12_19 sh_21 rfl ?_
    refine vIadd 21 i12_20 rfl ?_
    refine vCallV 24 [.ref 15, vi (97 + (s 21 (Int.toNat (w32 a1))))] [] [(0, .ref 15), (1, vi (97 + (s 21 (Int.toNat (w32 a1)))))] i12_21 rfl (xlk0 l12_34) (Or.inl rfl) m13 rfl rfl (Nat.le_of_ble_eq_true rfl) (Nat.le_of_ble_eq_true rfl) (Nat.le_of_ble_eq_true rfl) (xh0 sh_15 (by decide)) rfl rfl (fun R1 => c_x1_writeSign N   (by omega) s (97 + (s 21 (Int.toNat (w32 a1))))) (fun s16 => ?_)
    exact vR0 i12_24 m12
theorem f14_19 : xFld xg 14 19 = some (4, 0) := by decide +kernel
theorem i14_13 : xIns xg 14 13 = some (.iload 4) := by decide +kernel
theorem i14_15 : xIns xg 14 15 = some (.iload_n 3) := by decide +kernel
theorem i14_16 : xIns xg 14 16 = some (.aload_n 1) := by decide +kernel
theorem i14_17 : xIns xg 14 17 = some (.getfield 19) := by decide +kernel
theorem i14_20 : xIns xg 14 20 = some (.iload_n 2) := by decide +kernel
theorem i14_21 : xIns xg 14 21 = some (.iaload) := by decide +kernel
theorem i14_22 : xIns xg 14 22 = some (.iadd) := by decide +kernel
theorem i14_23 : xIns xg 14 23 = some (.if_icmp .ge 16) := by decide +kernel
theorem i14_39 : xIns xg 14 39 = some (.return_) := by decide +kernel
theorem m14 : (xMet xg 14).2.2 = (5, none) := by decide +kernel
theorem i14_26 : xIns xg 14 26 = some (.aload_n 0) := by decide +kernel
theorem i14_27 : xIns xg 14 27 = some (.aload_n 1) := by decide +kernel
theorem i14_28 : xIns xg 14 28 = some (.iload 4) := by decide +kernel
theorem i14_30 : xIns xg 14 30 = some (.invokevirtual 24) := by decide +kernel
theorem i14_33 : xIns xg 14 33 = some (.iinc 4 1) := by decide +kernel
theorem i14_36 : xIns xg 14 36 = some (.goto (-23)) := by decide +kernel
theorem i14_0 : xIns xg 14 0 = some (.aload_n 0) := by decide +kernel
theorem i14_1 : xIns xg 14 1 = some (.iconst 0) := by decide +kernel
theorem i14_2 : xIns xg 14 2 = some (.putfield 15) := by decide +kernel
theorem p14_15 : xPut xg 14 15 = some (0, 1, .int) := by decide +kernel
theorem i14_5 : xIns xg 14 5 = some (.iload_n 2) := by decide +kernel
theorem i14_6 : xIns xg 14 6 = some (.bipush 24) := by decide +kernel
theorem i14_8 : xIns xg 14 8 = some (.imul) := by decide +kernel
theorem i14_9 : xIns xg 14 9 = some (.istore_n 3) := by decide +kernel
theorem i14_10 : xIns xg 14 10 = some (.iload_n 3) := by decide +kernel
theorem i14_11 : xIns xg 14 11 = some (.istore 4) := by decide +kernel
def d_x1_writeStream_13 (N : Nat)  (k13 : St → Int → Int → Int → Option Rs) (s : St) (x2 : Int) (x3 : Int) (x4 : Int) : Option Rs :=
  if 0 ≤ (w32 x2) ∧ (w32 x2) < ((8 : Nat) : Int) then (if (w32 x4) < (w32 (x3 + (s 18 (Int.toNat (w32 x2))))) then bV (d_x1_writePart N  s x4) fun s1 => bd (x4 + 1) fun v3 => k13 s1 x2 x3 v3 else some (s, 0)) else none
def d_x1_writeStream_13L (N : Nat)  : Nat → St → Int → Int → Int → Option Rs
  | 0 => fun _ _ _ _ => none
  | n + 1 => d_x1_writeStream_13 N  (d_x1_writeStream_13L N  n)
set_option maxHeartbeats 4000000 in
set_option maxRecDepth 100000 in
theorem c_x1_writeStream_13 {sc : xS} {d : Nat} {R : Rs} (N : Nat)  (hd : 6 ≤ d)   (k13 : St → Int → Int → Int → Option Rs) (hk13 : ∀ (s : St) (x2 : Int) (x3 : Int) (x4 : Int), k13 s x2 x3 x4 = some R → vT sc d 14 13 [(0, .ref 15), (1, .ref 17), (2, vi x2), (3, vi x3), (4, vi x4)] [] s (fun r => r = qV R)) (s : St) (x2 : Int) (x3 : Int) (x4 : Int) : d_x1_writeStream_13 N  k13 s x2 x3 x4 = some R → vT sc d 14 13 [(0, .ref 15), (1, .ref 17), (2, vi x2), (3, vi x3), (4, vi x4)] [] s (fun r => r = qV R) := by
  obtain ⟨d, rfl⟩ : ∃ d', d = d' + 1 := ⟨d - 1, by omega⟩
  unfold d_x1_writeStream_13
  refine vLi 15 i14_13 rfl rfl ?_
  refine vLin 16 i14_15 rfl rfl ?_
  refine vLan 17 i14_16 rfl rfl ?_
  refine vGetC 20 i14_17 f14_19 sh_17 rfl rfl ?_
  refine vLin 21 i14_20 rfl rfl ?_
  refine vIal 22 rfl i14_21 sh_18 rfl ?_
  refine vIadd 23 i14_22 rfl ?_
  refine vCge 39 26 rfl rfl i14_23 rfl rfl ?_ ?_
  · exact vR0 i14_39 m14
  · refine vLan 27 i14_26 rfl rfl ?_
    refine vLan 28 i14_27 rfl rfl ?_
    refine vLi 30 i14_28 rfl rfl ?_
    refine vCallV 33 [.ref 15, .ref 17, vi x4] [] [(0, .ref 15), (1, .ref 17), (2, vi x4)] i14_30 rfl (xlk0 l14_24) (Or.inl rfl) m12 rfl rfl (Nat.le_of_ble_eq_true rfl) (Nat.le_of_ble_eq_true rfl) (Nat.le_of_ble_eq_true rfl) (xh0 sh_15 (by decide)) rfl rfl (fun R1 => c_x1_writePart N   (by omega) s x4) (fun s1 => ?_)
    refine vInc 36 (fun v3 => [(4, vi v3), (0, .ref 15), (1, .ref 17), (2, vi x2), (3, vi x3)]) i14_33 m14 (by decide) rfl (fun _ => rfl) rfl (fun v3 => ?_)
    refine vGo 13 i14_36 rfl ?_
    exact fun hD => tLc [(0, .ref 15), (1, .ref 17), (2, vi x2), (3, vi x3), (4, vi v3)] (xNdk [0, 1, 2, 3, 4] rfl (by decide)) (xNdk [4, 0, 1, 2, 3] rfl (by decide)) ⟨rfl, rfl, rfl, rfl, rfl, trivial⟩ (hk13 s1 x2 x3 v3 hD)
theorem c_x1_writeStream_13L {sc : xS} {d : Nat} {R : Rs} (N : Nat)  (hd : 6 ≤ d)   : ∀ (n : Nat) (s : St) (x2 : Int) (x3 : Int) (x4 : Int), d_x1_writeStream_13L N  n s x2 x3 x4 = some R → vT sc d 14 13 [(0, .ref 15), (1, .ref 17), (2, vi x2), (3, vi x3), (4, vi x4)] [] s (fun r => r = qV R) := by
  intro n
  induction n with
  | zero => intro s x2 x3 x4 hD; cases hD
  | succ n ih => intro s x2 x3 x4 hD; exact c_x1_writeStream_13 N  hd  _ ih s x2 x3 x4 hD
def d_x1_writeStream (N : Nat)  (s : St) (a1 : Int) : Option Rs :=
  bd (up s 15 1 0) fun s4 => bd (a1 * 24) fun v5 => d_x1_writeStream_13L N  N s4 a1 v5 v5
set_option maxHeartbeats 4000000 in
set_option maxRecDepth 100000 in
theorem c_x1_writeStream {sc : xS} {d : Nat} {R : Rs} (N : Nat)  (hd : 6 ≤ d)   (s : St) (a1 : Int) : d_x1_writeStream N  s a1 = some R → vT sc d 14 0 [(0, .ref 15), (1, .ref 17), (2, vi a1)] [] s (fun r => r = qV R) := by
  obtain ⟨d, rfl⟩ : ∃ d', d = d' + 1 := ⟨d - 1, by omega⟩
  unfold d_x1_writeStream
  refine vLan 1 i14_0 rfl rfl ?_
  refine vK 2 i14_1 rfl ?_
  refine vPut 5 i14_2 p14_15 sh_15 rfl rfl (fun s4 => ?_)
  refine vLin 6 i14_5 rfl rfl ?_
  refine vKb 8 i14_6 (by decide) rfl ?_
  refine vImul 9 i14_8 rfl ?_
  refine vSin 10 (fun v5 => [(3, vi v5), (0, .ref 15), (1, .ref 17), (2, vi a1)]) i14_9 m14 (by decide) (fun v5 => (rfl : xst1 [(0, .ref 15), (1, .ref 17), (2, vi a1)] 3 (vi v5) = [(3, vi v5), (0, .ref 15), (1, .ref 17), (2, vi a1)])) rfl (fun v5 => ?_)
  refine vLin 11 i14_10 rfl rfl ?_
  refine vSi0 13 [(4, vi v5), (3, vi v5), (0, .ref 15), (1, .ref 17), (2, vi a1)] i14_11 m14 (by decide) rfl rfl ?_
  exact fun hD => tLc [(0, .ref 15), (1, .ref 17), (2, vi a1), (3, vi v5), (4, vi v5)] (xNdk [0, 1, 2, 3, 4] rfl (by decide)) (xNdk [4, 3, 0, 1, 2] rfl (by decide)) ⟨rfl, rfl, rfl, rfl, rfl, trivial⟩ (c_x1_writeStream_13L N  hd  N s4 a1 v5 v5 hD)
theorem f36_9 : xFld xg 36 9 = some (2, 0) := by decide +kernel
theorem f36_15 : xFld xg 36 15 = some (2, 1) := by decide +kernel
theorem f36_18 : xFld xg 36 18 = some (2, 2) := by decide +kernel
theorem i36_17 : xIns xg 36 17 = some (.iload 4) := by decide +kernel
theorem i36_19 : xIns xg 36 19 = some (.iload_n 3) := by decide +kernel
theorem i36_20 : xIns xg 36 20 = some (.if_icmp .ge 22) := by decide +kernel
theorem i36_42 : xIns xg 36 42 = some (.return_) := by decide +kernel
theorem m36 : (xMet xg 36).2.2 = (5, none) := by decide +kernel
theorem i36_23 : xIns xg 36 23 = some (.aload_n 0) := by decide +kernel
theorem i36_24 : xIns xg 36 24 = some (.getfield 18) := by decide +kernel
theorem i36_27 : xIns xg 36 27 = some (.iload_n 1) := by decide +kernel
theorem i36_28 : xIns xg 36 28 = some (.bipush 40) := by decide +kernel
theorem i36_30 : xIns xg 36 30 = some (.imul) := by decide +kernel
theorem i36_31 : xIns xg 36 31 = some (.iload 4) := by decide +kernel
theorem i36_33 : xIns xg 36 33 = some (.iadd) := by decide +kernel
theorem i36_34 : xIns xg 36 34 = some (.lconst 0) := by decide +kernel
theorem i36_35 : xIns xg 36 35 = some (.lastore) := by decide +kernel
theorem i36_36 : xIns xg 36 36 = some (.iinc 4 1) := by decide +kernel
theorem i36_39 : xIns xg 36 39 = some (.goto (-22)) := by decide +kernel
theorem i36_0 : xIns xg 36 0 = some (.aload_n 0) := by decide +kernel
theorem i36_1 : xIns xg 36 1 = some (.getfield 9) := by decide +kernel
theorem i36_4 : xIns xg 36 4 = some (.iload_n 1) := by decide +kernel
theorem i36_5 : xIns xg 36 5 = some (.iload_n 2) := by decide +kernel
theorem i36_6 : xIns xg 36 6 = some (.iastore) := by decide +kernel
theorem i36_7 : xIns xg 36 7 = some (.aload_n 0) := by decide +kernel
theorem i36_8 : xIns xg 36 8 = some (.getfield 15) := by decide +kernel
theorem i36_11 : xIns xg 36 11 = some (.iload_n 1) := by decide +kernel
theorem i36_12 : xIns xg 36 12 = some (.iload_n 3) := by decide +kernel
theorem i36_13 : xIns xg 36 13 = some (.iastore) := by decide +kernel
theorem i36_14 : xIns xg 36 14 = some (.iconst 0) := by decide +kernel
theorem i36_15 : xIns xg 36 15 = some (.istore 4) := by decide +kernel
def d_x3_renew_17 (N : Nat)  (k17 : St → Int → Int → Int → Option Rs) (s : St) (x1 : Int) (x3 : Int) (x4 : Int) : Option Rs :=
  (if (w32 x4) < (w32 x3) then if 0 ≤ (w32 ((x1 * 40) + x4)) ∧ (w32 ((x1 * 40) + x4)) < ((160 : Nat) : Int) then bd (up s 54 (Int.toNat (w32 ((x1 * 40) + x4))) 0) fun s1 => bd (x4 + 1) fun v2 => k17 s1 x1 x3 v2 else none else some (s, 0))
def d_x3_renew_17L (N : Nat)  : Nat → St → Int → Int → Int → Option Rs
  | 0 => fun _ _ _ _ => none
  | n + 1 => d_x3_renew_17 N  (d_x3_renew_17L N  n)
set_option maxHeartbeats 4000000 in
set_option maxRecDepth 100000 in
theorem c_x3_renew_17 {sc : xS} {d : Nat} {R : Rs} (N : Nat)  (hd : 0 ≤ d)   (k17 : St → Int → Int → Int → Option Rs) (hk17 : ∀ (s : St) (x1 : Int) (x3 : Int) (x4 : Int), k17 s x1 x3 x4 = some R → vT sc d 36 17 [(0, .ref 51), (1, vi x1), (3, vi x3), (4, vi x4)] [] s (fun r => r = qV R)) (s : St) (x1 : Int) (x3 : Int) (x4 : Int) : d_x3_renew_17 N  k17 s x1 x3 x4 = some R → vT sc d 36 17 [(0, .ref 51), (1, vi x1), (3, vi x3), (4, vi x4)] [] s (fun r => r = qV R) := by
  unfold d_x3_renew_17
  refine vLi 19 i36_17 rfl rfl ?_
  refine vLin 20 i36_19 rfl rfl ?_
  refine vCge 42 23 rfl rfl i36_20 rfl rfl ?_ ?_
  · exact vR0 i36_42 m36
  · refine vLan 24 i36_23 rfl rfl ?_
    refine vGetC 27 i36_24 f36_18 sh_51 rfl rfl ?_
    refine vLin 28 i36_27 rfl rfl ?_
    refine vKb 30 i36_28 (by decide) rfl ?_
    refine vImul 31 i36_30 rfl ?_
    refine vLi 33 i36_31 rfl rfl ?_
    refine vIadd 34 i36_33 rfl ?_
    refine vKl 35 0 i36_34 (by decide) rfl ?_
    refine vLas 36 rfl i36_35 sh_54 rfl (fun s1 => ?_)
    refine vInc 39 (fun v2 => [(4, vi v2), (0, .ref 51), (1, vi x1), (3, vi x3)]) i36_36 m36 (by decide) rfl (fun _ => rfl) rfl (fun v2 => ?_)
    refine vGo 17 i36_39 rfl ?_
    exact fun hD => tLc [(0, .ref 51), (1, vi x1), (3, vi x3), (4, vi v2)] (xNdk [0, 1, 3, 4] rfl (by decide)) (xNdk [4, 0, 1, 3] rfl (by decide)) ⟨rfl, rfl, rfl, rfl, trivial⟩ (hk17 s1 x1 x3 v2 hD)
theorem c_x3_renew_17L {sc : xS} {d : Nat} {R : Rs} (N : Nat)  (hd : 0 ≤ d)   : ∀ (n : Nat) (s : St) (x1 : Int) (x3 : Int) (x4 : Int), d_x3_renew_17L N  n s x1 x3 x4 = some R → vT sc d 36 17 [(0, .ref 51), (1, vi x1), (3, vi x3), (4, vi x4)] [] s (fun r => r = qV R) := by
  intro n
  induction n with
  | zero => intro s x1 x3 x4 hD; cases hD
  | succ n ih => intro s x1 x3 x4 hD; exact c_x3_renew_17 N  hd  _ ih s x1 x3 x4 hD
def d_x3_renew (N : Nat)  (s : St) (a0 : Int) (a1 : Int) (a2 : Int) : Option Rs :=
  if 0 ≤ (w32 a0) ∧ (w32 a0) < ((4 : Nat) : Int) then bd (up s 52 (Int.toNat (w32 a0)) a1) fun s3 => if 0 ≤ (w32 a0) ∧ (w32 a0) < ((4 : Nat) : Int) then bd (up s3 53 (Int.toNat (w32 a0)) a2) fun s4 => d_x3_renew_17L N  N s4 a0 a2 0 else none else none
set_option maxHeartbeats 4000000 in
set_option maxRecDepth 100000 in
theorem c_x3_renew {sc : xS} {d : Nat} {R : Rs} (N : Nat)  (hd : 0 ≤ d)   (s : St) (a0 : Int) (a1 : Int) (a2 : Int) : d_x3_renew N  s a0 a1 a2 = some R → vT sc d 36 0 [(0, .ref 51), (1, vi a0), (2, vi a1), (3, vi a2)] [] s (fun r => r = qV R) := by
  unfold d_x3_renew
  refine vLan 1 i36_0 rfl rfl ?_
  refine vGetC 4 i36_1 f36_9 sh_51 rfl rfl ?_
  refine vLin 5 i36_4 rfl rfl ?_
  refine vLin 6 i36_5 rfl rfl ?_
  refine vIas 7 rfl i36_6 sh_52 rfl (fun s3 => ?_)
  refine vLan 8 i36_7 rfl rfl ?_
  refine vGetC 11 i36_8 f36_15 sh_51 rfl rfl ?_
  refine vLin 12 i36_11 rfl rfl ?_
  refine vLin 13 i36_12 rfl rfl ?_
  refine vIas 14 rfl i36_13 sh_53 rfl (fun s4 => ?_)
  refine vK 15 i36_14 rfl ?_
  refine vSi0 17 [(4, vi 0), (0, .ref 51), (1, vi a0), (2, vi a1), (3, vi a2)] i36_15 m36 (by decide) rfl rfl ?_
  exact fun hD => tLc [(0, .ref 51), (1, vi a0), (3, vi a2), (4, vi 0)] (xNdk [0, 1, 3, 4] rfl (by decide)) (xNdk [4, 0, 1, 2, 3] rfl (by decide)) ⟨rfl, rfl, rfl, rfl, trivial⟩ (c_x3_renew_17L N  hd  N s4 a0 a2 0 hD)
theorem f38_9 : xFld xg 38 9 = some (2, 0) := by decide +kernel
theorem f38_18 : xFld xg 38 18 = some (2, 2) := by decide +kernel
theorem i38_34 : xIns xg 38 34 = some (.aload_n 0) := by decide +kernel
theorem i38_35 : xIns xg 38 35 = some (.getfield 18) := by decide +kernel
theorem i38_38 : xIns xg 38 38 = some (.iload_n 1) := by decide +kernel
theorem i38_39 : xIns xg 38 39 = some (.bipush 40) := by decide +kernel
theorem i38_41 : xIns xg 38 41 = some (.imul) := by decide +kernel
theorem i38_42 : xIns xg 38 42 = some (.iload_n 2) := by decide +kernel
theorem i38_43 : xIns xg 38 43 = some (.iadd) := by decide +kernel
theorem i38_44 : xIns xg 38 44 = some (.lload 5) := by decide +kernel
theorem i38_46 : xIns xg 38 46 = some (.lastore) := by decide +kernel
theorem i38_47 : xIns xg 38 47 = some (.return_) := by decide +kernel
theorem m38 : (xMet xg 38).2.2 = (7, none) := by decide +kernel
theorem i38_18 : xIns xg 38 18 = some (.aload_n 0) := by decide +kernel
theorem i38_19 : xIns xg 38 19 = some (.getfield 9) := by decide +kernel
theorem i38_22 : xIns xg 38 22 = some (.iload_n 1) := by decide +kernel
theorem i38_23 : xIns xg 38 23 = some (.iaload) := by decide +kernel
theorem i38_24 : xIns xg 38 24 = some (.iconst 2) := by decide +kernel
theorem i38_25 : xIns xg 38 25 = some (.if_icmp .ne 9) := by decide +kernel
theorem i38_28 : xIns xg 38 28 = some (.lload_n 3) := by decide +kernel
theorem i38_29 : xIns xg 38 29 = some (.l2i) := by decide +kernel
theorem i38_30 : xIns xg 38 30 = some (.i2b) := by decide +kernel
theorem i38_31 : xIns xg 38 31 = some (.i2l) := by decide +kernel
theorem i38_32 : xIns xg 38 32 = some (.lstore 5) := by decide +kernel
theorem i38_0 : xIns xg 38 0 = some (.lload_n 3) := by decide +kernel
theorem i38_1 : xIns xg 38 1 = some (.lstore 5) := by decide +kernel
theorem i38_3 : xIns xg 38 3 = some (.aload_n 0) := by decide +kernel
theorem i38_4 : xIns xg 38 4 = some (.getfield 9) := by decide +kernel
theorem i38_7 : xIns xg 38 7 = some (.iload_n 1) := by decide +kernel
theorem i38_8 : xIns xg 38 8 = some (.iaload) := by decide +kernel
theorem i38_9 : xIns xg 38 9 = some (.iconst 1) := by decide +kernel
theorem i38_10 : xIns xg 38 10 = some (.if_icmp .ne 8) := by decide +kernel
theorem i38_13 : xIns xg 38 13 = some (.lload_n 3) := by decide +kernel
theorem i38_14 : xIns xg 38 14 = some (.l2i) := by decide +kernel
theorem i38_15 : xIns xg 38 15 = some (.i2l) := by decide +kernel
theorem i38_16 : xIns xg 38 16 = some (.lstore 5) := by decide +kernel
def d_x3_write_34 (N : Nat)  (s : St) (x1 : Int) (x2 : Int) (x5 : Int) : Option Rs :=
  if 0 ≤ (w32 ((x1 * 40) + x2)) ∧ (w32 ((x1 * 40) + x2)) < ((160 : Nat) : Int) then bd (up s 54 (Int.toNat (w32 ((x1 * 40) + x2))) x5) fun s1 => some (s1, 0) else none
set_option maxHeartbeats 4000000 in
set_option maxRecDepth 100000 in
theorem c_x3_write_34 {sc : xS} {d : Nat} {R : Rs} (N : Nat)  (hd : 0 ≤ d)   (s : St) (x1 : Int) (x2 : Int) (x5 : Int) : d_x3_write_34 N  s x1 x2 x5 = some R → vT sc d 38 34 [(0, .ref 51), (1, vi x1), (2, vi x2), (5, vl x5)] [] s (fun r => r = qV R) := by
  unfold d_x3_write_34
  refine vLan 35 i38_34 rfl rfl ?_
  refine vGetC 38 i38_35 f38_18 sh_51 rfl rfl ?_
  refine vLin 39 i38_38 rfl rfl ?_
  refine vKb 41 i38_39 (by decide) rfl ?_
  refine vImul 42 i38_41 rfl ?_
  refine vLin 43 i38_42 rfl rfl ?_
  refine vIadd 44 i38_43 rfl ?_
  refine vLl 46 i38_44 rfl rfl ?_
  refine vLas 47 rfl i38_46 sh_54 rfl (fun s1 => ?_)
  exact vR0 i38_47 m38
def d_x3_write_18 (N : Nat)  (s : St) (x1 : Int) (x2 : Int) (x3 : Int) (x5 : Int) : Option Rs :=
  if 0 ≤ (w32 x1) ∧ (w32 x1) < ((4 : Nat) : Int) then (if (w32 (s 52 (Int.toNat (w32 x1)))) = 2 then bd (w32 (w8 x3)) fun v2 => d_x3_write_34 N  s x1 x2 v2 else d_x3_write_34 N  s x1 x2 x5) else none
set_option maxHeartbeats 4000000 in
set_option maxRecDepth 100000 in
theorem c_x3_write_18 {sc : xS} {d : Nat} {R : Rs} (N : Nat)  (hd : 0 ≤ d)   (s : St) (x1 : Int) (x2 : Int) (x3 : Int) (x5 : Int) : d_x3_write_18 N  s x1 x2 x3 x5 = some R → vT sc d 38 18 [(0, .ref 51), (1, vi x1), (2, vi x2), (3, vl x3), (5, vl x5)] [] s (fun r => r = qV R) := by
  unfold d_x3_write_18
  refine vLan 19 i38_18 rfl rfl ?_
  refine vGetC 22 i38_19 f38_9 sh_51 rfl rfl ?_
  refine vLin 23 i38_22 rfl rfl ?_
  refine vIal 24 rfl i38_23 sh_52 rfl ?_
  refine vK 25 i38_24 rfl ?_
  refine vCne 34 28 rfl (show w32 2 = 2 from rfl) i38_25 rfl rfl ?_ ?_
  · exact fun hD => tLc [(0, .ref 51), (1, vi x1), (2, vi x2), (5, vl x5)] (xNdk [0, 1, 2, 5] rfl (by decide)) (xNdk [0, 1, 2, 3, 5] rfl (by decide)) ⟨rfl, rfl, rfl, rfl, trivial⟩ (c_x3_write_34 N  hd  s x1 x2 x5 hD)
  · refine vLln 29 i38_28 rfl rfl ?_
    refine vL2i 30 i38_29 rfl ?_
    refine vI2b 31 i38_30 rfl ?_
    refine vI2l 32 i38_31 rfl ?_
    refine vSl 34 (fun v2 => [(5, vl v2), (0, .ref 51), (1, vi x1), (2, vi x2), (3, vl x3)]) i38_32 m38 (by decide) (fun v2 => (rfl : xst2 [(0, .ref 51), (1, vi x1), (2, vi x2), (3, vl x3), (5, vl x5)] 5 (vl v2) = [(5, vl v2), (0, .ref 51), (1, vi x1), (2, vi x2), (3, vl x3)])) rfl (fun v2 => ?_)
    exact fun hD => tLc [(0, .ref 51), (1, vi x1), (2, vi x2), (5, vl v2)] (xNdk [0, 1, 2, 5] rfl (by decide)) (xNdk [5, 0, 1, 2, 3] rfl (by decide)) ⟨rfl, rfl, rfl, rfl, trivial⟩ (c_x3_write_34 N  hd  s x1 x2 v2 hD)
def d_x3_write (N : Nat)  (s : St) (a0 : Int) (a1 : Int) (a2 : Int) : Option Rs :=
  if 0 ≤ (w32 a0) ∧ (w32 a0) < ((4 : Nat) : Int) then (if (w32 (s 52 (Int.toNat (w32 a0)))) = 1 then bd (w32 a2) fun v3 => d_x3_write_18 N  s a0 a1 a2 v3 else d_x3_write_18 N  s a0 a1 a2 a2) else none
set_option maxHeartbeats 4000000 in
set_option maxRecDepth 100000 in
theorem c_x3_write {sc : xS} {d : Nat} {R : Rs} (N : Nat)  (hd : 0 ≤ d)   (s : St) (a0 : Int) (a1 : Int) (a2 : Int) : d_x3_write N  s a0 a1 a2 = some R → vT sc d 38 0 [(0, .ref 51), (1, vi a0), (2, vi a1), (3, vl a2)] [] s (fun r => r = qV R) := by
  unfold d_x3_write
  refine vLln 1 i38_0 rfl rfl ?_
  refine vSl0 3 [(5, vl a2), (0, .ref 51), (1, vi a0), (2, vi a1), (3, vl a2)] i38_1 m38 (by decide) rfl rfl ?_
  refine vLan 4 i38_3 rfl rfl ?_
  refine vGetC 7 i38_4 f38_9 sh_51 rfl rfl ?_
  refine vLin 8 i38_7 rfl rfl ?_
  refine vIal 9 rfl i38_8 sh_52 rfl ?_
  refine vK 10 i38_9 rfl ?_
  refine vCne 18 13 rfl (show w32 1 = 1 from rfl) i38_10 rfl rfl ?_ ?_
  · exact fun hD => tLc [(0, .ref 51), (1, vi a0), (2, vi a1), (3, vl a2), (5, vl a2)] (xNdk [0, 1, 2, 3, 5] rfl (by decide)) (xNdk [5, 0, 1, 2, 3] rfl (by decide)) ⟨rfl, rfl, rfl, rfl, rfl, trivial⟩ (c_x3_write_18 N  hd  s a0 a1 a2 a2 hD)
  · refine vLln 14 i38_13 rfl rfl ?_
    refine vL2i 15 i38_14 rfl ?_
    refine vI2l 16 i38_15 rfl ?_
    refine vSl 18 (fun v3 => [(5, vl v3), (0, .ref 51), (1, vi a0), (2, vi a1), (3, vl a2)]) i38_16 m38 (by decide) (fun v3 => (rfl : xst2 [(5, vl a2), (0, .ref 51), (1, vi a0), (2, vi a1), (3, vl a2)] 5 (vl v3) = [(5, vl v3), (0, .ref 51), (1, vi a0), (2, vi a1), (3, vl a2)])) rfl (fun v3 => ?_)
    exact fun hD => tLc [(0, .ref 51), (1, vi a0), (2, vi a1), (3, vl a2), (5, vl v3)] (xNdk [0, 1, 2, 3, 5] rfl (by decide)) (xNdk [5, 0, 1, 2, 3] rfl (by decide)) ⟨rfl, rfl, rfl, rfl, rfl, trivial⟩ (c_x3_write_18 N  hd  s a0 a1 a2 v3 hD)
theorem f33_9 : xFld xg 33 9 = some (2, 0) := by decide +kernel
theorem i33_0 : xIns xg 33 0 = some (.aload_n 0) := by decide +kernel
theorem i33_1 : xIns xg 33 1 = some (.getfield 9) := by decide +kernel
theorem i33_4 : xIns xg 33 4 = some (.iload_n 1) := by decide +kernel
theorem i33_5 : xIns xg 33 5 = some (.iaload) := by decide +kernel
theorem i33_6 : xIns xg 33 6 = some (.iconst (-1)) := by decide +kernel
theorem i33_7 : xIns xg 33 7 = some (.if_icmp .ne 7) := by decide +kernel
theorem i33_14 : xIns xg 33 14 = some (.iconst 0) := by decide +kernel
theorem i33_15 : xIns xg 33 15 = some (.ireturn) := by decide +kernel
theorem m33 : (xMet xg 33).2.2 = (2, (some .boolean)) := by decide +kernel
theorem i33_10 : xIns xg 33 10 = some (.iconst 1) := by decide +kernel
theorem i33_11 : xIns xg 33 11 = some (.goto 4) := by decide +kernel
def d_x3_isMissing (N : Nat)  (s : St) (a0 : Int) : Option Rs :=
  if 0 ≤ (w32 a0) ∧ (w32 a0) < ((4 : Nat) : Int) then (if (w32 (s 52 (Int.toNat (w32 a0)))) = (-1) then some (s, 1) else some (s, 0)) else none
set_option maxHeartbeats 4000000 in
set_option maxRecDepth 100000 in
theorem c_x3_isMissing {sc : xS} {d : Nat} {R : Rs} (N : Nat)  (hd : 0 ≤ d)   (s : St) (a0 : Int) : d_x3_isMissing N  s a0 = some R → vT sc d 33 0 [(0, .ref 51), (1, vi a0)] [] s (fun r => r = qI R) := by
  unfold d_x3_isMissing
  refine vLan 1 i33_0 rfl rfl ?_
  refine vGetC 4 i33_1 f33_9 sh_51 rfl rfl ?_
  refine vLin 5 i33_4 rfl rfl ?_
  refine vIal 6 rfl i33_5 sh_52 rfl ?_
  refine vK 7 i33_6 rfl ?_
  refine vCne 14 10 rfl (show w32 (-1) = (-1) from rfl) i33_7 rfl rfl ?_ ?_
  · refine vK 15 i33_14 rfl ?_
    exact vRi i33_15 m33 (by decide)
  · refine vK 11 i33_10 rfl ?_
    refine vGo 15 i33_11 rfl ?_
    exact vRi i33_15 m33 (by decide)
theorem f35_18 : xFld xg 35 18 = some (2, 2) := by decide +kernel
theorem i35_0 : xIns xg 35 0 = some (.aload_n 0) := by decide +kernel
theorem i35_1 : xIns xg 35 1 = some (.getfield 18) := by decide +kernel
theorem i35_4 : xIns xg 35 4 = some (.iload_n 1) := by decide +kernel
theorem i35_5 : xIns xg 35 5 = some (.bipush 40) := by decide +kernel
theorem i35_7 : xIns xg 35 7 = some (.imul) := by decide +kernel
theorem i35_8 : xIns xg 35 8 = some (.iload_n 2) := by decide +kernel
theorem i35_9 : xIns xg 35 9 = some (.iadd) := by decide +kernel
theorem i35_10 : xIns xg 35 10 = some (.laload) := by decide +kernel
theorem i35_11 : xIns xg 35 11 = some (.lreturn) := by decide +kernel
theorem m35 : (xMet xg 35).2.2 = (3, (some .long)) := by decide +kernel
def d_x3_read (N : Nat)  (s : St) (a0 : Int) (a1 : Int) : Option Rs :=
  if 0 ≤ (w32 ((a0 * 40) + a1)) ∧ (w32 ((a0 * 40) + a1)) < ((160 : Nat) : Int) then some (s, (s 54 (Int.toNat (w32 ((a0 * 40) + a1))))) else none
set_option maxHeartbeats 4000000 in
set_option maxRecDepth 100000 in
theorem c_x3_read {sc : xS} {d : Nat} {R : Rs} (N : Nat)  (hd : 0 ≤ d)   (s : St) (a0 : Int) (a1 : Int) : d_x3_read N  s a0 a1 = some R → vT sc d 35 0 [(0, .ref 51), (1, vi a0), (2, vi a1)] [] s (fun r => r = qL R) := by
  unfold d_x3_read
  refine vLan 1 i35_0 rfl rfl ?_
  refine vGetC 4 i35_1 f35_18 sh_51 rfl rfl ?_
  refine vLin 5 i35_4 rfl rfl ?_
  refine vKb 7 i35_5 (by decide) rfl ?_
  refine vImul 8 i35_7 rfl ?_
  refine vLin 9 i35_8 rfl rfl ?_
  refine vIadd 10 i35_9 rfl ?_
  refine vLal 11 rfl i35_10 sh_54 rfl ?_
  exact vRl i35_11 m35
theorem f37_15 : xFld xg 37 15 = some (2, 1) := by decide +kernel
theorem i37_0 : xIns xg 37 0 = some (.iload_n 2) := by decide +kernel
theorem i37_1 : xIns xg 37 1 = some (.ifCond .lt 33) := by decide +kernel
theorem i37_34 : xIns xg 37 34 = some (.iconst 0) := by decide +kernel
theorem i37_35 : xIns xg 37 35 = some (.ireturn) := by decide +kernel
theorem m37 : (xMet xg 37).2.2 = (4, (some .boolean)) := by decide +kernel
theorem i37_4 : xIns xg 37 4 = some (.iload_n 3) := by decide +kernel
theorem i37_5 : xIns xg 37 5 = some (.ifCond .lt 29) := by decide +kernel
theorem i37_8 : xIns xg 37 8 = some (.iload_n 2) := by decide +kernel
theorem i37_9 : xIns xg 37 9 = some (.aload_n 0) := by decide +kernel
theorem i37_10 : xIns xg 37 10 = some (.getfield 15) := by decide +kernel
theorem i37_13 : xIns xg 37 13 = some (.iload_n 1) := by decide +kernel
theorem i37_14 : xIns xg 37 14 = some (.iaload) := by decide +kernel
theorem i37_15 : xIns xg 37 15 = some (.if_icmp .gt 19) := by decide +kernel
theorem i37_18 : xIns xg 37 18 = some (.iload_n 3) := by decide +kernel
theorem i37_19 : xIns xg 37 19 = some (.aload_n 0) := by decide +kernel
theorem i37_20 : xIns xg 37 20 = some (.getfield 15) := by decide +kernel
theorem i37_23 : xIns xg 37 23 = some (.iload_n 1) := by decide +kernel
theorem i37_24 : xIns xg 37 24 = some (.iaload) := by decide +kernel
theorem i37_25 : xIns xg 37 25 = some (.iload_n 2) := by decide +kernel
theorem i37_26 : xIns xg 37 26 = some (.isub) := by decide +kernel
theorem i37_27 : xIns xg 37 27 = some (.if_icmp .gt 7) := by decide +kernel
theorem i37_30 : xIns xg 37 30 = some (.iconst 1) := by decide +kernel
theorem i37_31 : xIns xg 37 31 = some (.goto 4) := by decide +kernel
def d_x3_spans (N : Nat)  (s : St) (a0 : Int) (a1 : Int) (a2 : Int) : Option Rs :=
  (if (w32 a1) < 0 then some (s, 0) else (if (w32 a2) < 0 then some (s, 0) else if 0 ≤ (w32 a0) ∧ (w32 a0) < ((4 : Nat) : Int) then (if (w32 (s 53 (Int.toNat (w32 a0)))) < (w32 a1) then some (s, 0) else if 0 ≤ (w32 a0) ∧ (w32 a0) < ((4 : Nat) : Int) then (if (w32 ((s 53 (Int.toNat (w32 a0))) - a1)) < (w32 a2) then some (s, 0) else some (s, 1)) else none) else none))
set_option maxHeartbeats 4000000 in
set_option maxRecDepth 100000 in
theorem c_x3_spans {sc : xS} {d : Nat} {R : Rs} (N : Nat)  (hd : 0 ≤ d)   (s : St) (a0 : Int) (a1 : Int) (a2 : Int) : d_x3_spans N  s a0 a1 a2 = some R → vT sc d 37 0 [(0, .ref 51), (1, vi a0), (2, vi a1), (3, vi a2)] [] s (fun r => r = qI R) := by
  unfold d_x3_spans
  refine vLin 1 i37_0 rfl rfl ?_
  refine vZlt 34 4 rfl i37_1 rfl rfl ?_ ?_
  · refine vK 35 i37_34 rfl ?_
    exact vRi i37_35 m37 (by decide)
  · refine vLin 5 i37_4 rfl rfl ?_
    refine vZlt 34 8 rfl i37_5 rfl rfl ?_ ?_
    · refine vK 35 i37_34 rfl ?_
      exact vRi i37_35 m37 (by decide)
    · refine vLin 9 i37_8 rfl rfl ?_
      refine vLan 10 i37_9 rfl rfl ?_
      refine vGetC 13 i37_10 f37_15 sh_51 rfl rfl ?_
      refine vLin 14 i37_13 rfl rfl ?_
      refine vIal 15 rfl i37_14 sh_53 rfl ?_
      refine vCgt 34 18 rfl rfl i37_15 rfl rfl ?_ ?_
      · refine vK 35 i37_34 rfl ?_
        exact vRi i37_35 m37 (by decide)
      · refine vLin 19 i37_18 rfl rfl ?_
        refine vLan 20 i37_19 rfl rfl ?_
        refine vGetC 23 i37_20 f37_15 sh_51 rfl rfl ?_
        refine vLin 24 i37_23 rfl rfl ?_
        refine vIal 25 rfl i37_24 sh_53 rfl ?_
        refine vLin 26 i37_25 rfl rfl ?_
        refine vIsub 27 i37_26 rfl ?_
        refine vCgt 34 30 rfl rfl i37_27 rfl rfl ?_ ?_
        · refine vK 35 i37_34 rfl ?_
          exact vRi i37_35 m37 (by decide)
        · refine vK 31 i37_30 rfl ?_
          refine vGo 35 i37_31 rfl ?_
          exact vRi i37_35 m37 (by decide)
theorem f34_18 : xFld xg 34 18 = some (2, 2) := by decide +kernel
theorem i34_0 : xIns xg 34 0 = some (.aload_n 0) := by decide +kernel
theorem i34_1 : xIns xg 34 1 = some (.getfield 18) := by decide +kernel
theorem i34_4 : xIns xg 34 4 = some (.iload_n 1) := by decide +kernel
theorem i34_5 : xIns xg 34 5 = some (.bipush 40) := by decide +kernel
theorem i34_7 : xIns xg 34 7 = some (.imul) := by decide +kernel
theorem i34_8 : xIns xg 34 8 = some (.iload_n 2) := by decide +kernel
theorem i34_9 : xIns xg 34 9 = some (.iadd) := by decide +kernel
theorem i34_10 : xIns xg 34 10 = some (.aload_n 0) := by decide +kernel
theorem i34_11 : xIns xg 34 11 = some (.getfield 18) := by decide +kernel
theorem i34_14 : xIns xg 34 14 = some (.iload_n 3) := by decide +kernel
theorem i34_15 : xIns xg 34 15 = some (.bipush 40) := by decide +kernel
theorem i34_17 : xIns xg 34 17 = some (.imul) := by decide +kernel
theorem i34_18 : xIns xg 34 18 = some (.iload 4) := by decide +kernel
theorem i34_20 : xIns xg 34 20 = some (.iadd) := by decide +kernel
theorem i34_21 : xIns xg 34 21 = some (.iload 5) := by decide +kernel
theorem i34_23 : xIns xg 34 23 = some (.invokestatic 22) := by decide +kernel
theorem i34_26 : xIns xg 34 26 = some (.return_) := by decide +kernel
theorem m34 : (xMet xg 34).2.2 = (6, none) := by decide +kernel
def d_x3_move (N : Nat)  (s : St) (a0 : Int) (a1 : Int) (a2 : Int) (a3 : Int) (a4 : Int) : Option Rs :=
  if 0 ≤ (w32 a4) ∧ 0 ≤ (w32 ((a0 * 40) + a1)) ∧ 0 ≤ (w32 ((a2 * 40) + a3)) ∧ (w32 ((a0 * 40) + a1)) + (w32 a4) ≤ ((160 : Nat) : Int) ∧ (w32 ((a2 * 40) + a3)) + (w32 a4) ≤ ((160 : Nat) : Int) then bd (cp s 54 (Int.toNat (w32 ((a0 * 40) + a1))) 54 (Int.toNat (w32 ((a2 * 40) + a3))) (Int.toNat (w32 a4))) fun s1 => some (s1, 0) else none
set_option maxHeartbeats 4000000 in
set_option maxRecDepth 100000 in
theorem c_x3_move {sc : xS} {d : Nat} {R : Rs} (N : Nat)  (hd : 1 ≤ d)   (s : St) (a0 : Int) (a1 : Int) (a2 : Int) (a3 : Int) (a4 : Int) : d_x3_move N  s a0 a1 a2 a3 a4 = some R → vT sc d 34 0 [(0, .ref 51), (1, vi a0), (2, vi a1), (3, vi a2), (4, vi a3), (5, vi a4)] [] s (fun r => r = qV R) := by
  obtain ⟨d, rfl⟩ : ∃ d', d = d' + 1 := ⟨d - 1, by omega⟩
  unfold d_x3_move
  refine vLan 1 i34_0 rfl rfl ?_
  refine vGetC 4 i34_1 f34_18 sh_51 rfl rfl ?_
  refine vLin 5 i34_4 rfl rfl ?_
  refine vKb 7 i34_5 (by decide) rfl ?_
  refine vImul 8 i34_7 rfl ?_
  refine vLin 9 i34_8 rfl rfl ?_
  refine vIadd 10 i34_9 rfl ?_
  refine vLan 11 i34_10 rfl rfl ?_
  refine vGetC 14 i34_11 f34_18 sh_51 rfl rfl ?_
  refine vLin 15 i34_14 rfl rfl ?_
  refine vKb 17 i34_15 (by decide) rfl ?_
  refine vImul 18 i34_17 rfl ?_
  refine vLi 20 i34_18 rfl rfl ?_
  refine vIadd 21 i34_20 rfl ?_
  refine vLi 23 i34_21 rfl rfl ?_
  refine vCpL 26 rfl rfl rfl i34_23 l34_22 sh_54 sh_54 (Nat.le_of_ble_eq_true rfl) rfl (fun s1 => ?_)
  exact vR0 i34_26 m34
