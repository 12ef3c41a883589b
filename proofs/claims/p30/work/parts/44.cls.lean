theorem f86_10 : xFld xg 86 10 = some (6, 0) := by decide +kernel
theorem i86_0 : xIns xg 86 0 = some (.iload_n 1) := by decide +kernel
theorem i86_1 : xIns xg 86 1 = some (.ifCond .lt 10) := by decide +kernel
theorem i86_11 : xIns xg 86 11 = some (.bipush (-2)) := by decide +kernel
theorem i86_13 : xIns xg 86 13 = some (.ireturn) := by decide +kernel
theorem m86 : (xMet xg 86).2.2 = (2, (some .int)) := by decide +kernel
theorem i86_4 : xIns xg 86 4 = some (.iload_n 1) := by decide +kernel
theorem i86_5 : xIns xg 86 5 = some (.sipush 255) := by decide +kernel
theorem i86_8 : xIns xg 86 8 = some (.if_icmp .le 6) := by decide +kernel
theorem i86_14 : xIns xg 86 14 = some (.aload_n 0) := by decide +kernel
theorem i86_15 : xIns xg 86 15 = some (.getfield 10) := by decide +kernel
theorem i86_18 : xIns xg 86 18 = some (.iload_n 1) := by decide +kernel
theorem i86_19 : xIns xg 86 19 = some (.invokevirtual 82) := by decide +kernel
theorem i86_22 : xIns xg 86 22 = some (.ireturn) := by decide +kernel
def d_x7_feed (N : Nat)  (s : St) (a0 : Int) : Option Rs :=
  (if (w32 a0) < 0 then some (s, (-2)) else (if 255 < (w32 a0) then some (s, (-2)) else bI (d_x2_addByte N  s a0) fun s1 v2 => some (s1, v2)))
set_option maxHeartbeats 4000000 in
set_option maxRecDepth 100000 in
theorem c_x7_feed {sc : xS} {d : Nat} {R : Rs} (N : Nat)  (hd : 1 ≤ d)   (s : St) (a0 : Int) : d_x7_feed N  s a0 = some R → vT sc d 86 0 [(0, .ref 0), (1, vi a0)] [] s (fun r => r = qI R) := by
  obtain ⟨d, rfl⟩ : ∃ d', d = d' + 1 := ⟨d - 1, by omega⟩
  unfold d_x7_feed
  refine vLin 1 i86_0 rfl rfl ?_
  refine vZlt 11 4 rfl i86_1 rfl rfl ?_ ?_
  · refine vKb 13 i86_11 (by decide) rfl ?_
    exact vRi i86_13 m86 rfl
  · refine vLin 5 i86_4 rfl rfl ?_
    refine vKs 8 i86_5 (by decide) rfl ?_
    refine vCle 14 11 rfl (show w32 255 = 255 from rfl) i86_8 rfl rfl ?_ ?_
    · refine vLan 15 i86_14 rfl rfl ?_
      refine vGetC 18 i86_15 f86_10 sh_0 rfl rfl ?_
      refine vLin 19 i86_18 rfl rfl ?_
      refine vCallI 22 [.ref 1, vi a0] [] [(0, .ref 1), (1, vi a0)] i86_19 rfl (xlk0 l86_82) (Or.inl rfl) m16 rfl rfl (Nat.le_of_ble_eq_true rfl) (Nat.le_of_ble_eq_true rfl) (Nat.le_of_ble_eq_true rfl) (xh0 sh_1 (by decide)) rfl rfl (fun R1 => c_x2_addByte N   (by omega) s a0) (fun s1 v2 => ?_)
      exact vRi i86_22 m86 rfl
    · refine vKb 13 i86_11 (by decide) rfl ?_
      exact vRi i86_13 m86 rfl
theorem i98_0 : xIns xg 98 0 = some (.iload_n 0) := by decide +kernel
theorem i98_1 : xIns xg 98 1 = some (.ifCond .lt 13) := by decide +kernel
theorem i98_14 : xIns xg 98 14 = some (.iconst 0) := by decide +kernel
theorem i98_15 : xIns xg 98 15 = some (.ireturn) := by decide +kernel
theorem m98 : (xMet xg 98).2.2 = (1, (some .boolean)) := by decide +kernel
theorem i98_4 : xIns xg 98 4 = some (.iload_n 0) := by decide +kernel
theorem i98_5 : xIns xg 98 5 = some (.bipush 8) := by decide +kernel
theorem i98_7 : xIns xg 98 7 = some (.if_icmp .ge 7) := by decide +kernel
theorem i98_10 : xIns xg 98 10 = some (.iconst 1) := by decide +kernel
theorem i98_11 : xIns xg 98 11 = some (.goto 4) := by decide +kernel
def d_x7_isStream (N : Nat)  (s : St) (a0 : Int) : Option Rs :=
  (if (w32 a0) < 0 then some (s, 0) else (if (w32 a0) < 8 then some (s, 1) else some (s, 0)))
set_option maxHeartbeats 4000000 in
set_option maxRecDepth 100000 in
theorem c_x7_isStream {sc : xS} {d : Nat} {R : Rs} (N : Nat)  (hd : 0 ≤ d)   (s : St) (a0 : Int) : d_x7_isStream N  s a0 = some R → vT sc d 98 0 [(0, vi a0)] [] s (fun r => r = qI R) := by
  unfold d_x7_isStream
  refine vLin 1 i98_0 rfl rfl ?_
  refine vZlt 14 4 rfl i98_1 rfl rfl ?_ ?_
  · refine vK 15 i98_14 rfl ?_
    exact vRi i98_15 m98 (by decide)
  · refine vLin 5 i98_4 rfl rfl ?_
    refine vKb 7 i98_5 (by decide) rfl ?_
    refine vCge 14 10 rfl (show w32 8 = 8 from rfl) i98_7 rfl rfl ?_ ?_
    · refine vK 15 i98_14 rfl ?_
      exact vRi i98_15 m98 (by decide)
    · refine vK 11 i98_10 rfl ?_
      refine vGo 15 i98_11 rfl ?_
      exact vRi i98_15 m98 (by decide)
theorem f117_10 : xFld xg 117 10 = some (6, 0) := by decide +kernel
theorem f117_28 : xFld xg 117 28 = some (6, 2) := by decide +kernel
theorem f117_94 : xFld xg 117 94 = some (1, 0) := by decide +kernel
theorem f117_35 : xFld xg 117 35 = some (6, 3) := by decide +kernel
theorem i117_0 : xIns xg 117 0 = some (.iload_n 1) := by decide +kernel
theorem i117_1 : xIns xg 117 1 = some (.invokestatic 86) := by decide +kernel
theorem i117_4 : xIns xg 117 4 = some (.ifCond .ne 6) := by decide +kernel
theorem i117_10 : xIns xg 117 10 = some (.aload_n 0) := by decide +kernel
theorem i117_11 : xIns xg 117 11 = some (.getfield 10) := by decide +kernel
theorem i117_14 : xIns xg 117 14 = some (.invokevirtual 90) := by decide +kernel
theorem i117_17 : xIns xg 117 17 = some (.istore_n 2) := by decide +kernel
theorem m117 : (xMet xg 117).2.2 = (3, (some .int)) := by decide +kernel
theorem i117_18 : xIns xg 117 18 = some (.iload_n 2) := by decide +kernel
theorem i117_19 : xIns xg 117 19 = some (.ifCond .le 26) := by decide +kernel
theorem i117_45 : xIns xg 117 45 = some (.iload_n 2) := by decide +kernel
theorem i117_46 : xIns xg 117 46 = some (.ireturn) := by decide +kernel
theorem i117_22 : xIns xg 117 22 = some (.aload_n 0) := by decide +kernel
theorem i117_23 : xIns xg 117 23 = some (.getfield 28) := by decide +kernel
theorem i117_26 : xIns xg 117 26 = some (.aload_n 0) := by decide +kernel
theorem i117_27 : xIns xg 117 27 = some (.getfield 10) := by decide +kernel
theorem i117_30 : xIns xg 117 30 = some (.getfield 94) := by decide +kernel
theorem i117_33 : xIns xg 117 33 = some (.iconst 0) := by decide +kernel
theorem i117_34 : xIns xg 117 34 = some (.iload_n 1) := by decide +kernel
theorem i117_35 : xIns xg 117 35 = some (.invokevirtual 97) := by decide +kernel
theorem i117_38 : xIns xg 117 38 = some (.aload_n 0) := by decide +kernel
theorem i117_39 : xIns xg 117 39 = some (.getfield 35) := by decide +kernel
theorem i117_42 : xIns xg 117 42 = some (.invokevirtual 101) := by decide +kernel
theorem i117_7 : xIns xg 117 7 = some (.bipush (-2)) := by decide +kernel
theorem i117_9 : xIns xg 117 9 = some (.ireturn) := by decide +kernel
def d_x7_text (N : Nat)  (s : St) (a0 : Int) : Option Rs :=
  bI (d_x7_isStream N  s a0) fun s1 v2 => (if (w32 v2) = 0 then some (s1, (-2)) else bI (d_x2_readTape N  s1 ) fun s3 v4 => (if 0 < (w32 v4) then bV (d_x5_takeStream N 17 8 2 1 s3 0 a0) fun s5 => bV (d_x6_untell N 26 s5 ) fun s7 => some (s7, v4) else some (s3, v4)))
set_option maxHeartbeats 4000000 in
set_option maxRecDepth 100000 in
theorem c_x7_text {sc : xS} {d : Nat} {R : Rs} (N : Nat)  (hd : 9 ≤ d)   (s : St) (a0 : Int) : d_x7_text N  s a0 = some R → vT sc d 117 0 [(0, .ref 0), (1, vi a0)] [] s (fun r => r = qI R) := by
  obtain ⟨d, rfl⟩ : ∃ d', d = d' + 1 := ⟨d - 1, by omega⟩
  unfold d_x7_text
  refine vLin 1 i117_0 rfl rfl ?_
  refine vCallI 4 [vi a0] [] [(0, vi a0)] i117_1 rfl (xlk1 l117_86) (Or.inr (Or.inl rfl)) m98 rfl rfl (Nat.le_of_ble_eq_true rfl) (Nat.le_of_ble_eq_true rfl) (Nat.le_of_ble_eq_true rfl) rfl rfl rfl (fun R1 => c_x7_isStream N   (by omega) s a0) (fun s1 v2 => ?_)
  refine vZne 10 7 rfl i117_4 rfl rfl ?_ ?_
  · refine vLan 11 i117_10 rfl rfl ?_
    refine vGetC 14 i117_11 f117_10 sh_0 rfl rfl ?_
    refine vCallI 17 [.ref 1] [] [(0, .ref 1)] i117_14 rfl (xlk0 l117_90) (Or.inl rfl) m29 rfl rfl (Nat.le_of_ble_eq_true rfl) (Nat.le_of_ble_eq_true rfl) (Nat.le_of_ble_eq_true rfl) (xh0 sh_1 (by decide)) rfl rfl (fun R1 => c_x2_readTape N   (by omega) s1 ) (fun s3 v4 => ?_)
    refine vSin0 18 [(2, vi v4), (0, .ref 0), (1, vi a0)] i117_17 m117 (by decide) rfl rfl ?_
    refine vLin 19 i117_18 rfl rfl ?_
    refine vZle 45 22 rfl i117_19 rfl rfl ?_ ?_
    · refine vLin 46 i117_45 rfl rfl ?_
      exact vRi i117_46 m117 rfl
    · refine vLan 23 i117_22 rfl rfl ?_
      refine vGetC 26 i117_23 f117_28 sh_0 rfl rfl ?_
      refine vLan 27 i117_26 rfl rfl ?_
      refine vGetC 30 i117_27 f117_10 sh_0 rfl rfl ?_
      refine vGetC 33 i117_30 f117_94 sh_1 rfl rfl ?_
      refine vK 34 i117_33 rfl ?_
      refine vLin 35 i117_34 rfl rfl ?_
      refine vCallV 38 [.ref 17, .ref 2, vi 0, vi a0] [] [(0, .ref 17), (1, .ref 2), (2, vi 0), (3, vi a0)] i117_35 rfl (xlk0 l117_97) (Or.inl rfl) m70 rfl rfl (Nat.le_of_ble_eq_true rfl) (Nat.le_of_ble_eq_true rfl) (Nat.le_of_ble_eq_true rfl) (xh0 sh_17 (by decide)) rfl rfl (fun R1 => c_x5_takeStream N 17 8 2 1 isTexts_17 isTexts_2 (by omega) s3 0 a0) (fun s5 => ?_)
      refine vLan 39 i117_38 rfl rfl ?_
      refine vGetC 42 i117_39 f117_35 sh_0 rfl rfl ?_
      refine vCallV 45 [.ref 26] [] [(0, .ref 26)] i117_42 rfl (xlk0 l117_101) (Or.inl rfl) m77 rfl rfl (Nat.le_of_ble_eq_true rfl) (Nat.le_of_ble_eq_true rfl) (Nat.le_of_ble_eq_true rfl) (xh0 sh_26 (by decide)) rfl rfl (fun R1 => c_x6_untell N 26 isTold_26 (by omega) s5 ) (fun s7 => ?_)
      refine vLin 46 i117_45 rfl rfl ?_
      exact vRi i117_46 m117 rfl
  · refine vKb 9 i117_7 (by decide) rfl ?_
    exact vRi i117_9 m117 rfl
theorem f84_28 : xFld xg 84 28 = some (6, 2) := by decide +kernel
theorem f84_104 : xFld xg 84 104 = some (4, 0) := by decide +kernel
theorem f84_35 : xFld xg 84 35 = some (6, 3) := by decide +kernel
theorem i84_0 : xIns xg 84 0 = some (.iload_n 1) := by decide +kernel
theorem i84_1 : xIns xg 84 1 = some (.invokestatic 86) := by decide +kernel
theorem i84_4 : xIns xg 84 4 = some (.ifCond .ne 6) := by decide +kernel
theorem i84_10 : xIns xg 84 10 = some (.aload_n 0) := by decide +kernel
theorem i84_11 : xIns xg 84 11 = some (.getfield 28) := by decide +kernel
theorem i84_14 : xIns xg 84 14 = some (.getfield 104) := by decide +kernel
theorem i84_17 : xIns xg 84 17 = some (.iload_n 1) := by decide +kernel
theorem i84_18 : xIns xg 84 18 = some (.iaload) := by decide +kernel
theorem i84_19 : xIns xg 84 19 = some (.istore_n 2) := by decide +kernel
theorem m84 : (xMet xg 84).2.2 = (3, (some .int)) := by decide +kernel
theorem i84_20 : xIns xg 84 20 = some (.aload_n 0) := by decide +kernel
theorem i84_21 : xIns xg 84 21 = some (.getfield 28) := by decide +kernel
theorem i84_24 : xIns xg 84 24 = some (.getfield 104) := by decide +kernel
theorem i84_27 : xIns xg 84 27 = some (.iload_n 1) := by decide +kernel
theorem i84_28 : xIns xg 84 28 = some (.iconst 0) := by decide +kernel
theorem i84_29 : xIns xg 84 29 = some (.iastore) := by decide +kernel
theorem i84_30 : xIns xg 84 30 = some (.aload_n 0) := by decide +kernel
theorem i84_31 : xIns xg 84 31 = some (.getfield 35) := by decide +kernel
theorem i84_34 : xIns xg 84 34 = some (.invokevirtual 101) := by decide +kernel
theorem i84_37 : xIns xg 84 37 = some (.iload_n 2) := by decide +kernel
theorem i84_38 : xIns xg 84 38 = some (.ireturn) := by decide +kernel
theorem i84_7 : xIns xg 84 7 = some (.bipush (-2)) := by decide +kernel
theorem i84_9 : xIns xg 84 9 = some (.ireturn) := by decide +kernel
def d_x7_empty (N : Nat)  (s : St) (a0 : Int) : Option Rs :=
  bI (d_x7_isStream N  s a0) fun s1 v2 => (if (w32 v2) = 0 then some (s1, (-2)) else if 0 ≤ (w32 a0) ∧ (w32 a0) < ((8 : Nat) : Int) then bd (s1 18 (Int.toNat (w32 a0))) fun v3 => if 0 ≤ (w32 a0) ∧ (w32 a0) < ((8 : Nat) : Int) then bd (up s1 18 (Int.toNat (w32 a0)) 0) fun s4 => bV (d_x6_untell N 26 s4 ) fun s5 => some (s5, v3) else none else none)
set_option maxHeartbeats 4000000 in
set_option maxRecDepth 100000 in
theorem c_x7_empty {sc : xS} {d : Nat} {R : Rs} (N : Nat)  (hd : 2 ≤ d)   (s : St) (a0 : Int) : d_x7_empty N  s a0 = some R → vT sc d 84 0 [(0, .ref 0), (1, vi a0)] [] s (fun r => r = qI R) := by
  obtain ⟨d, rfl⟩ : ∃ d', d = d' + 1 := ⟨d - 1, by omega⟩
  unfold d_x7_empty
  refine vLin 1 i84_0 rfl rfl ?_
  refine vCallI 4 [vi a0] [] [(0, vi a0)] i84_1 rfl (xlk1 l84_86) (Or.inr (Or.inl rfl)) m98 rfl rfl (Nat.le_of_ble_eq_true rfl) (Nat.le_of_ble_eq_true rfl) (Nat.le_of_ble_eq_true rfl) rfl rfl rfl (fun R1 => c_x7_isStream N   (by omega) s a0) (fun s1 v2 => ?_)
  refine vZne 10 7 rfl i84_4 rfl rfl ?_ ?_
  · refine vLan 11 i84_10 rfl rfl ?_
    refine vGetC 14 i84_11 f84_28 sh_0 rfl rfl ?_
    refine vGetC 17 i84_14 f84_104 sh_17 rfl rfl ?_
    refine vLin 18 i84_17 rfl rfl ?_
    refine vIal 19 rfl i84_18 sh_18 rfl ?_
    refine vSin 20 (fun v3 => [(2, vi v3), (0, .ref 0), (1, vi a0)]) i84_19 m84 (by decide) (fun v3 => (rfl : xst1 [(0, .ref 0), (1, vi a0)] 2 (vi v3) = [(2, vi v3), (0, .ref 0), (1, vi a0)])) rfl (fun v3 => ?_)
    refine vLan 21 i84_20 rfl rfl ?_
    refine vGetC 24 i84_21 f84_28 sh_0 rfl rfl ?_
    refine vGetC 27 i84_24 f84_104 sh_17 rfl rfl ?_
    refine vLin 28 i84_27 rfl rfl ?_
    refine vK 29 i84_28 rfl ?_
    refine vIas 30 rfl i84_29 sh_18 rfl (fun s4 => ?_)
    refine vLan 31 i84_30 rfl rfl ?_
    refine vGetC 34 i84_31 f84_35 sh_0 rfl rfl ?_
    refine vCallV 37 [.ref 26] [] [(0, .ref 26)] i84_34 rfl (xlk0 l84_101) (Or.inl rfl) m77 rfl rfl (Nat.le_of_ble_eq_true rfl) (Nat.le_of_ble_eq_true rfl) (Nat.le_of_ble_eq_true rfl) (xh0 sh_26 (by decide)) rfl rfl (fun R1 => c_x6_untell N 26 isTold_26 (by omega) s4 ) (fun s5 => ?_)
    refine vLin 38 i84_37 rfl rfl ?_
    exact vRi i84_38 m84 rfl
  · refine vKb 9 i84_7 (by decide) rfl ?_
    exact vRi i84_9 m84 rfl
theorem f90_28 : xFld xg 90 28 = some (6, 2) := by decide +kernel
theorem f90_104 : xFld xg 90 104 = some (4, 0) := by decide +kernel
theorem i90_0 : xIns xg 90 0 = some (.iload_n 1) := by decide +kernel
theorem i90_1 : xIns xg 90 1 = some (.invokestatic 86) := by decide +kernel
theorem i90_4 : xIns xg 90 4 = some (.ifCond .eq 24) := by decide +kernel
theorem i90_28 : xIns xg 90 28 = some (.iconst 0) := by decide +kernel
theorem i90_29 : xIns xg 90 29 = some (.ireturn) := by decide +kernel
theorem m90 : (xMet xg 90).2.2 = (3, (some .boolean)) := by decide +kernel
theorem i90_7 : xIns xg 90 7 = some (.iload_n 2) := by decide +kernel
theorem i90_8 : xIns xg 90 8 = some (.ifCond .lt 20) := by decide +kernel
theorem i90_11 : xIns xg 90 11 = some (.iload_n 2) := by decide +kernel
theorem i90_12 : xIns xg 90 12 = some (.aload_n 0) := by decide +kernel
theorem i90_13 : xIns xg 90 13 = some (.getfield 28) := by decide +kernel
theorem i90_16 : xIns xg 90 16 = some (.getfield 104) := by decide +kernel
theorem i90_19 : xIns xg 90 19 = some (.iload_n 1) := by decide +kernel
theorem i90_20 : xIns xg 90 20 = some (.iaload) := by decide +kernel
theorem i90_21 : xIns xg 90 21 = some (.if_icmp .ge 7) := by decide +kernel
theorem i90_24 : xIns xg 90 24 = some (.iconst 1) := by decide +kernel
theorem i90_25 : xIns xg 90 25 = some (.goto 4) := by decide +kernel
def d_x7_hasPart (N : Nat)  (s : St) (a0 : Int) (a1 : Int) : Option Rs :=
  bI (d_x7_isStream N  s a0) fun s1 v2 => (if (w32 v2) = 0 then some (s1, 0) else (if (w32 a1) < 0 then some (s1, 0) else if 0 ≤ (w32 a0) ∧ (w32 a0) < ((8 : Nat) : Int) then (if (w32 a1) < (w32 (s1 18 (Int.toNat (w32 a0)))) then some (s1, 1) else some (s1, 0)) else none))
set_option maxHeartbeats 4000000 in
set_option maxRecDepth 100000 in
theorem c_x7_hasPart {sc : xS} {d : Nat} {R : Rs} (N : Nat)  (hd : 1 ≤ d)   (s : St) (a0 : Int) (a1 : Int) : d_x7_hasPart N  s a0 a1 = some R → vT sc d 90 0 [(0, .ref 0), (1, vi a0), (2, vi a1)] [] s (fun r => r = qI R) := by
  obtain ⟨d, rfl⟩ : ∃ d', d = d' + 1 := ⟨d - 1, by omega⟩
  unfold d_x7_hasPart
  refine vLin 1 i90_0 rfl rfl ?_
  refine vCallI 4 [vi a0] [] [(0, vi a0)] i90_1 rfl (xlk1 l90_86) (Or.inr (Or.inl rfl)) m98 rfl rfl (Nat.le_of_ble_eq_true rfl) (Nat.le_of_ble_eq_true rfl) (Nat.le_of_ble_eq_true rfl) rfl rfl rfl (fun R1 => c_x7_isStream N   (by omega) s a0) (fun s1 v2 => ?_)
  refine vZeq 28 7 rfl i90_4 rfl rfl ?_ ?_
  · refine vK 29 i90_28 rfl ?_
    exact vRi i90_29 m90 (by decide)
  · refine vLin 8 i90_7 rfl rfl ?_
    refine vZlt 28 11 rfl i90_8 rfl rfl ?_ ?_
    · refine vK 29 i90_28 rfl ?_
      exact vRi i90_29 m90 (by decide)
    · refine vLin 12 i90_11 rfl rfl ?_
      refine vLan 13 i90_12 rfl rfl ?_
      refine vGetC 16 i90_13 f90_28 sh_0 rfl rfl ?_
      refine vGetC 19 i90_16 f90_104 sh_17 rfl rfl ?_
      refine vLin 20 i90_19 rfl rfl ?_
      refine vIal 21 rfl i90_20 sh_18 rfl ?_
      refine vCge 28 24 rfl rfl i90_21 rfl rfl ?_ ?_
      · refine vK 29 i90_28 rfl ?_
        exact vRi i90_29 m90 (by decide)
      · refine vK 25 i90_24 rfl ?_
        refine vGo 29 i90_25 rfl ?_
        exact vRi i90_29 m90 (by decide)
theorem f95_28 : xFld xg 95 28 = some (6, 2) := by decide +kernel
theorem f95_104 : xFld xg 95 104 = some (4, 0) := by decide +kernel
theorem i95_0 : xIns xg 95 0 = some (.aload_n 0) := by decide +kernel
theorem i95_1 : xIns xg 95 1 = some (.getfield 28) := by decide +kernel
theorem i95_4 : xIns xg 95 4 = some (.getfield 104) := by decide +kernel
theorem i95_7 : xIns xg 95 7 = some (.iload_n 1) := by decide +kernel
theorem i95_8 : xIns xg 95 8 = some (.iaload) := by decide +kernel
theorem i95_9 : xIns xg 95 9 = some (.ifCond .ne 7) := by decide +kernel
theorem i95_16 : xIns xg 95 16 = some (.iconst 0) := by decide +kernel
theorem i95_17 : xIns xg 95 17 = some (.ireturn) := by decide +kernel
theorem m95 : (xMet xg 95).2.2 = (2, (some .boolean)) := by decide +kernel
theorem i95_12 : xIns xg 95 12 = some (.iconst 1) := by decide +kernel
theorem i95_13 : xIns xg 95 13 = some (.goto 4) := by decide +kernel
def d_x7_isEmpty (N : Nat)  (s : St) (a0 : Int) : Option Rs :=
  if 0 ≤ (w32 a0) ∧ (w32 a0) < ((8 : Nat) : Int) then (if (w32 (s 18 (Int.toNat (w32 a0)))) = 0 then some (s, 1) else some (s, 0)) else none
set_option maxHeartbeats 4000000 in
set_option maxRecDepth 100000 in
theorem c_x7_isEmpty {sc : xS} {d : Nat} {R : Rs} (N : Nat)  (hd : 0 ≤ d)   (s : St) (a0 : Int) : d_x7_isEmpty N  s a0 = some R → vT sc d 95 0 [(0, .ref 0), (1, vi a0)] [] s (fun r => r = qI R) := by
  unfold d_x7_isEmpty
  refine vLan 1 i95_0 rfl rfl ?_
  refine vGetC 4 i95_1 f95_28 sh_0 rfl rfl ?_
  refine vGetC 7 i95_4 f95_104 sh_17 rfl rfl ?_
  refine vLin 8 i95_7 rfl rfl ?_
  refine vIal 9 rfl i95_8 sh_18 rfl ?_
  refine vZne 16 12 rfl i95_9 rfl rfl ?_ ?_
  · refine vK 17 i95_16 rfl ?_
    exact vRi i95_17 m95 (by decide)
  · refine vK 13 i95_12 rfl ?_
    refine vGo 17 i95_13 rfl ?_
    exact vRi i95_17 m95 (by decide)
theorem f105_28 : xFld xg 105 28 = some (6, 2) := by decide +kernel
theorem f105_115 : xFld xg 105 115 = some (4, 1) := by decide +kernel
theorem f105_130 : xFld xg 105 130 = some (4, 6) := by decide +kernel
theorem f105_35 : xFld xg 105 35 = some (6, 3) := by decide +kernel
theorem f105_127 : xFld xg 105 127 = some (5, 2) := by decide +kernel
theorem f105_124 : xFld xg 105 124 = some (5, 1) := by decide +kernel
theorem f105_121 : xFld xg 105 121 = some (5, 0) := by decide +kernel
theorem f105_118 : xFld xg 105 118 = some (4, 5) := by decide +kernel
theorem i105_0 : xIns xg 105 0 = some (.iload_n 1) := by decide +kernel
theorem i105_1 : xIns xg 105 1 = some (.invokestatic 86) := by decide +kernel
theorem i105_4 : xIns xg 105 4 = some (.ifCond .eq 12) := by decide +kernel
theorem i105_16 : xIns xg 105 16 = some (.bipush (-2)) := by decide +kernel
theorem i105_18 : xIns xg 105 18 = some (.ireturn) := by decide +kernel
theorem m105 : (xMet xg 105).2.2 = (5, (some .int)) := by decide +kernel
theorem i105_7 : xIns xg 105 7 = some (.iload_n 3) := by decide +kernel
theorem i105_8 : xIns xg 105 8 = some (.ifCond .lt 8) := by decide +kernel
theorem i105_11 : xIns xg 105 11 = some (.iload_n 3) := by decide +kernel
theorem i105_12 : xIns xg 105 12 = some (.iconst 5) := by decide +kernel
theorem i105_13 : xIns xg 105 13 = some (.if_icmp .le 6) := by decide +kernel
theorem i105_19 : xIns xg 105 19 = some (.aload_n 0) := by decide +kernel
theorem i105_20 : xIns xg 105 20 = some (.iload_n 1) := by decide +kernel
theorem i105_21 : xIns xg 105 21 = some (.invokevirtual 108) := by decide +kernel
theorem i105_24 : xIns xg 105 24 = some (.ifCond .eq 6) := by decide +kernel
theorem i105_30 : xIns xg 105 30 = some (.aload_n 0) := by decide +kernel
theorem i105_31 : xIns xg 105 31 = some (.iload_n 1) := by decide +kernel
theorem i105_32 : xIns xg 105 32 = some (.iload_n 2) := by decide +kernel
theorem i105_33 : xIns xg 105 33 = some (.invokevirtual 111) := by decide +kernel
theorem i105_36 : xIns xg 105 36 = some (.ifCond .ne 6) := by decide +kernel
theorem i105_42 : xIns xg 105 42 = some (.iload_n 1) := by decide +kernel
theorem i105_43 : xIns xg 105 43 = some (.bipush 24) := by decide +kernel
theorem i105_45 : xIns xg 105 45 = some (.imul) := by decide +kernel
theorem i105_46 : xIns xg 105 46 = some (.iload_n 2) := by decide +kernel
theorem i105_47 : xIns xg 105 47 = some (.iadd) := by decide +kernel
theorem i105_48 : xIns xg 105 48 = some (.istore 4) := by decide +kernel
theorem i105_50 : xIns xg 105 50 = some (.iload_n 3) := by decide +kernel
theorem i105_51 : xIns xg 105 51 = some (.tableswitch 88 0 4 #[33, 44, 55, 66, 77]) := by decide +kernel
theorem i105_84 : xIns xg 105 84 = some (.aload_n 0) := by decide +kernel
theorem i105_85 : xIns xg 105 85 = some (.getfield 28) := by decide +kernel
theorem i105_88 : xIns xg 105 88 = some (.getfield 115) := by decide +kernel
theorem i105_91 : xIns xg 105 91 = some (.iload 4) := by decide +kernel
theorem i105_93 : xIns xg 105 93 = some (.iaload) := by decide +kernel
theorem i105_94 : xIns xg 105 94 = some (.ireturn) := by decide +kernel
theorem i105_95 : xIns xg 105 95 = some (.aload_n 0) := by decide +kernel
theorem i105_96 : xIns xg 105 96 = some (.getfield 28) := by decide +kernel
theorem i105_99 : xIns xg 105 99 = some (.getfield 118) := by decide +kernel
theorem i105_102 : xIns xg 105 102 = some (.iload 4) := by decide +kernel
theorem i105_104 : xIns xg 105 104 = some (.iaload) := by decide +kernel
theorem i105_105 : xIns xg 105 105 = some (.ireturn) := by decide +kernel
theorem i105_106 : xIns xg 105 106 = some (.aload_n 0) := by decide +kernel
theorem i105_107 : xIns xg 105 107 = some (.getfield 35) := by decide +kernel
theorem i105_110 : xIns xg 105 110 = some (.getfield 121) := by decide +kernel
theorem i105_113 : xIns xg 105 113 = some (.iload 4) := by decide +kernel
theorem i105_115 : xIns xg 105 115 = some (.iaload) := by decide +kernel
theorem i105_116 : xIns xg 105 116 = some (.ireturn) := by decide +kernel
theorem i105_117 : xIns xg 105 117 = some (.aload_n 0) := by decide +kernel
theorem i105_118 : xIns xg 105 118 = some (.getfield 35) := by decide +kernel
theorem i105_121 : xIns xg 105 121 = some (.getfield 124) := by decide +kernel
theorem i105_124 : xIns xg 105 124 = some (.iload 4) := by decide +kernel
theorem i105_126 : xIns xg 105 126 = some (.iaload) := by decide +kernel
theorem i105_127 : xIns xg 105 127 = some (.ireturn) := by decide +kernel
theorem i105_128 : xIns xg 105 128 = some (.aload_n 0) := by decide +kernel
theorem i105_129 : xIns xg 105 129 = some (.getfield 35) := by decide +kernel
theorem i105_132 : xIns xg 105 132 = some (.getfield 127) := by decide +kernel
theorem i105_135 : xIns xg 105 135 = some (.iload 4) := by decide +kernel
theorem i105_137 : xIns xg 105 137 = some (.iaload) := by decide +kernel
theorem i105_138 : xIns xg 105 138 = some (.ireturn) := by decide +kernel
theorem i105_139 : xIns xg 105 139 = some (.aload_n 0) := by decide +kernel
theorem i105_140 : xIns xg 105 140 = some (.getfield 28) := by decide +kernel
theorem i105_143 : xIns xg 105 143 = some (.getfield 115) := by decide +kernel
theorem i105_146 : xIns xg 105 146 = some (.iload 4) := by decide +kernel
theorem i105_148 : xIns xg 105 148 = some (.iaload) := by decide +kernel
theorem i105_149 : xIns xg 105 149 = some (.iconst 2) := by decide +kernel
theorem i105_150 : xIns xg 105 150 = some (.if_icmp .ne 16) := by decide +kernel
theorem i105_166 : xIns xg 105 166 = some (.iconst (-1)) := by decide +kernel
theorem i105_167 : xIns xg 105 167 = some (.ireturn) := by decide +kernel
theorem i105_153 : xIns xg 105 153 = some (.aload_n 0) := by decide +kernel
theorem i105_154 : xIns xg 105 154 = some (.getfield 28) := by decide +kernel
theorem i105_157 : xIns xg 105 157 = some (.getfield 130) := by decide +kernel
theorem i105_160 : xIns xg 105 160 = some (.iload 4) := by decide +kernel
theorem i105_162 : xIns xg 105 162 = some (.iaload) := by decide +kernel
theorem i105_163 : xIns xg 105 163 = some (.goto 4) := by decide +kernel
theorem i105_39 : xIns xg 105 39 = some (.bipush (-12)) := by decide +kernel
theorem i105_41 : xIns xg 105 41 = some (.ireturn) := by decide +kernel
theorem i105_27 : xIns xg 105 27 = some (.bipush (-3)) := by decide +kernel
theorem i105_29 : xIns xg 105 29 = some (.ireturn) := by decide +kernel
def d_x7_part (N : Nat)  (s : St) (a0 : Int) (a1 : Int) (a2 : Int) : Option Rs :=
  bI (d_x7_isStream N  s a0) fun s1 v2 => (if (w32 v2) = 0 then some (s1, (-2)) else (if (w32 a2) < 0 then some (s1, (-2)) else (if 5 < (w32 a2) then some (s1, (-2)) else bI (d_x7_isEmpty N  s1 a0) fun s3 v4 => (if (w32 v4) = 0 then bI (d_x7_hasPart N  s3 a0 a1) fun s5 v6 => (if (w32 v6) = 0 then some (s5, (-12)) else bd ((a0 * 24) + a1) fun v7 => (if (w32 a2) = 0 then if 0 ≤ (w32 v7) ∧ (w32 v7) < ((192 : Nat) : Int) then some (s5, (s5 19 (Int.toNat (w32 v7)))) else none else (if (w32 a2) = 1 then if 0 ≤ (w32 v7) ∧ (w32 v7) < ((192 : Nat) : Int) then some (s5, (s5 23 (Int.toNat (w32 v7)))) else none else (if (w32 a2) = 2 then if 0 ≤ (w32 v7) ∧ (w32 v7) < ((192 : Nat) : Int) then some (s5, (s5 27 (Int.toNat (w32 v7)))) else none else (if (w32 a2) = 3 then if 0 ≤ (w32 v7) ∧ (w32 v7) < ((192 : Nat) : Int) then some (s5, (s5 28 (Int.toNat (w32 v7)))) else none else (if (w32 a2) = 4 then if 0 ≤ (w32 v7) ∧ (w32 v7) < ((192 : Nat) : Int) then some (s5, (s5 29 (Int.toNat (w32 v7)))) else none else if 0 ≤ (w32 v7) ∧ (w32 v7) < ((192 : Nat) : Int) then (if (w32 (s5 19 (Int.toNat (w32 v7)))) = 2 then if 0 ≤ (w32 v7) ∧ (w32 v7) < ((192 : Nat) : Int) then some (s5, (s5 24 (Int.toNat (w32 v7)))) else none else some (s5, (-1))) else none)))))) else some (s3, (-3))))))
set_option maxHeartbeats 4000000 in
set_option maxRecDepth 100000 in
theorem c_x7_part {sc : xS} {d : Nat} {R : Rs} (N : Nat)  (hd : 2 ≤ d)   (s : St) (a0 : Int) (a1 : Int) (a2 : Int) : d_x7_part N  s a0 a1 a2 = some R → vT sc d 105 0 [(0, .ref 0), (1, vi a0), (2, vi a1), (3, vi a2)] [] s (fun r => r = qI R) := by
  obtain ⟨d, rfl⟩ : ∃ d', d = d' + 1 := ⟨d - 1, by omega⟩
  unfold d_x7_part
  refine vLin 1 i105_0 rfl rfl ?_
  refine vCallI 4 [vi a0] [] [(0, vi a0)] i105_1 rfl (xlk1 l105_86) (Or.inr (Or.inl rfl)) m98 rfl rfl (Nat.le_of_ble_eq_true rfl) (Nat.le_of_ble_eq_true rfl) (Nat.le_of_ble_eq_true rfl) rfl rfl rfl (fun R1 => c_x7_isStream N   (by omega) s a0) (fun s1 v2 => ?_)
  refine vZeq 16 7 rfl i105_4 rfl rfl ?_ ?_
  · refine vKb 18 i105_16 (by decide) rfl ?_
    exact vRi i105_18 m105 rfl
  · refine vLin 8 i105_7 rfl rfl ?_
    refine vZlt 16 11 rfl i105_8 rfl rfl ?_ ?_
    · refine vKb 18 i105_16 (by decide) rfl ?_
      exact vRi i105_18 m105 rfl
    · refine vLin 12 i105_11 rfl rfl ?_
      refine vK 13 i105_12 rfl ?_
      refine vCle 19 16 rfl (show w32 5 = 5 from rfl) i105_13 rfl rfl ?_ ?_
      · refine vLan 20 i105_19 rfl rfl ?_
        refine vLin 21 i105_20 rfl rfl ?_
        refine vCallI 24 [.ref 0, vi a0] [] [(0, .ref 0), (1, vi a0)] i105_21 rfl (xlk0 l105_108) (Or.inl rfl) m95 rfl rfl (Nat.le_of_ble_eq_true rfl) (Nat.le_of_ble_eq_true rfl) (Nat.le_of_ble_eq_true rfl) (xh0 sh_0 (by decide)) rfl rfl (fun R1 => c_x7_isEmpty N   (by omega) s1 a0) (fun s3 v4 => ?_)
        refine vZeq 30 27 rfl i105_24 rfl rfl ?_ ?_
        · refine vLan 31 i105_30 rfl rfl ?_
          refine vLin 32 i105_31 rfl rfl ?_
          refine vLin 33 i105_32 rfl rfl ?_
          refine vCallI 36 [.ref 0, vi a0, vi a1] [] [(0, .ref 0), (1, vi a0), (2, vi a1)] i105_33 rfl (xlk0 l105_111) (Or.inl rfl) m90 rfl rfl (Nat.le_of_ble_eq_true rfl) (Nat.le_of_ble_eq_true rfl) (Nat.le_of_ble_eq_true rfl) (xh0 sh_0 (by decide)) rfl rfl (fun R1 => c_x7_hasPart N   (by omega) s3 a0 a1) (fun s5 v6 => ?_)
          refine vZne 42 39 rfl i105_36 rfl rfl ?_ ?_
          · refine vLin 43 i105_42 rfl rfl ?_
            refine vKb 45 i105_43 (by decide) rfl ?_
            refine vImul 46 i105_45 rfl ?_
            refine vLin 47 i105_46 rfl rfl ?_
            refine vIadd 48 i105_47 rfl ?_
            refine vSi 50 (fun v7 => [(4, vi v7), (0, .ref 0), (1, vi a0), (2, vi a1), (3, vi a2)]) i105_48 m105 (by decide) (fun v7 => (rfl : xst1 [(0, .ref 0), (1, vi a0), (2, vi a1), (3, vi a2)] 4 (vi v7) = [(4, vi v7), (0, .ref 0), (1, vi a0), (2, vi a1), (3, vi a2)])) rfl (fun v7 => ?_)
            refine vLin 51 i105_50 rfl rfl ?_
            refine vSw 84 (v := 0) rfl i105_51 rfl rfl ?_ (fun h0 => ?_)
            · refine vLan 85 i105_84 rfl rfl ?_
              refine vGetC 88 i105_85 f105_28 sh_0 rfl rfl ?_
              refine vGetC 91 i105_88 f105_115 sh_17 rfl rfl ?_
              refine vLi 93 i105_91 rfl rfl ?_
              refine vIal 94 rfl i105_93 sh_19 rfl ?_
              exact vRi i105_94 m105 rfl
            refine vSw 95 (v := 1) rfl i105_51 rfl rfl ?_ (fun h1 => ?_)
            · refine vLan 96 i105_95 rfl rfl ?_
              refine vGetC 99 i105_96 f105_28 sh_0 rfl rfl ?_
              refine vGetC 102 i105_99 f105_118 sh_17 rfl rfl ?_
              refine vLi 104 i105_102 rfl rfl ?_
              refine vIal 105 rfl i105_104 sh_23 rfl ?_
              exact vRi i105_105 m105 rfl
            refine vSw 106 (v := 2) rfl i105_51 rfl rfl ?_ (fun h2 => ?_)
            · refine vLan 107 i105_106 rfl rfl ?_
              refine vGetC 110 i105_107 f105_35 sh_0 rfl rfl ?_
              refine vGetC 113 i105_110 f105_121 sh_26 rfl rfl ?_
              refine vLi 115 i105_113 rfl rfl ?_
              refine vIal 116 rfl i105_115 sh_27 rfl ?_
              exact vRi i105_116 m105 rfl
            refine vSw 117 (v := 3) rfl i105_51 rfl rfl ?_ (fun h3 => ?_)
            · refine vLan 118 i105_117 rfl rfl ?_
              refine vGetC 121 i105_118 f105_35 sh_0 rfl rfl ?_
              refine vGetC 124 i105_121 f105_124 sh_26 rfl rfl ?_
              refine vLi 126 i105_124 rfl rfl ?_
              refine vIal 127 rfl i105_126 sh_28 rfl ?_
              exact vRi i105_127 m105 rfl
            refine vSw 128 (v := 4) rfl i105_51 rfl rfl ?_ (fun h4 => ?_)
            · refine vLan 129 i105_128 rfl rfl ?_
              refine vGetC 132 i105_129 f105_35 sh_0 rfl rfl ?_
              refine vGetC 135 i105_132 f105_127 sh_26 rfl rfl ?_
              refine vLi 137 i105_135 rfl rfl ?_
              refine vIal 138 rfl i105_137 sh_29 rfl ?_
              exact vRi i105_138 m105 rfl
            refine vSwD 139 i105_51 (by omega) rfl ?_
            refine vLan 140 i105_139 rfl rfl ?_
            refine vGetC 143 i105_140 f105_28 sh_0 rfl rfl ?_
            refine vGetC 146 i105_143 f105_115 sh_17 rfl rfl ?_
            refine vLi 148 i105_146 rfl rfl ?_
            refine vIal 149 rfl i105_148 sh_19 rfl ?_
            refine vK 150 i105_149 rfl ?_
            refine vCne 166 153 rfl (show w32 2 = 2 from rfl) i105_150 rfl rfl ?_ ?_
            · refine vK 167 i105_166 rfl ?_
              exact vRi i105_167 m105 rfl
            · refine vLan 154 i105_153 rfl rfl ?_
              refine vGetC 157 i105_154 f105_28 sh_0 rfl rfl ?_
              refine vGetC 160 i105_157 f105_130 sh_17 rfl rfl ?_
              refine vLi 162 i105_160 rfl rfl ?_
              refine vIal 163 rfl i105_162 sh_24 rfl ?_
              refine vGo 167 i105_163 rfl ?_
              exact vRi i105_167 m105 rfl
          · refine vKb 41 i105_39 (by decide) rfl ?_
            exact vRi i105_41 m105 rfl
        · refine vKb 29 i105_27 (by decide) rfl ?_
          exact vRi i105_29 m105 rfl
      · refine vKb 18 i105_16 (by decide) rfl ?_
        exact vRi i105_18 m105 rfl
theorem f104_28 : xFld xg 104 28 = some (6, 2) := by decide +kernel
theorem f104_115 : xFld xg 104 115 = some (4, 1) := by decide +kernel
theorem f104_140 : xFld xg 104 140 = some (4, 3) := by decide +kernel
theorem i104_0 : xIns xg 104 0 = some (.aload_n 0) := by decide +kernel
theorem i104_1 : xIns xg 104 1 = some (.iload_n 1) := by decide +kernel
theorem i104_2 : xIns xg 104 2 = some (.iload_n 2) := by decide +kernel
theorem i104_3 : xIns xg 104 3 = some (.invokevirtual 111) := by decide +kernel
theorem i104_6 : xIns xg 104 6 = some (.ifCond .ne 7) := by decide +kernel
theorem i104_13 : xIns xg 104 13 = some (.iload_n 1) := by decide +kernel
theorem i104_14 : xIns xg 104 14 = some (.bipush 24) := by decide +kernel
theorem i104_16 : xIns xg 104 16 = some (.imul) := by decide +kernel
theorem i104_17 : xIns xg 104 17 = some (.iload_n 2) := by decide +kernel
theorem i104_18 : xIns xg 104 18 = some (.iadd) := by decide +kernel
theorem i104_19 : xIns xg 104 19 = some (.istore_n 3) := by decide +kernel
theorem m104 : (xMet xg 104).2.2 = (4, (some .long)) := by decide +kernel
theorem i104_20 : xIns xg 104 20 = some (.aload_n 0) := by decide +kernel
theorem i104_21 : xIns xg 104 21 = some (.getfield 28) := by decide +kernel
theorem i104_24 : xIns xg 104 24 = some (.getfield 115) := by decide +kernel
theorem i104_27 : xIns xg 104 27 = some (.iload_n 3) := by decide +kernel
theorem i104_28 : xIns xg 104 28 = some (.iaload) := by decide +kernel
theorem i104_29 : xIns xg 104 29 = some (.invokestatic 135) := by decide +kernel
theorem i104_32 : xIns xg 104 32 = some (.ifCond .eq 16) := by decide +kernel
theorem i104_48 : xIns xg 104 48 = some (.ldc2_w 133) := by decide +kernel
theorem c104_133 : xCon xg 104 133 = some (vl (-4611686018427387904)) := by decide +kernel
theorem i104_51 : xIns xg 104 51 = some (.lreturn) := by decide +kernel
theorem i104_35 : xIns xg 104 35 = some (.aload_n 0) := by decide +kernel
theorem i104_36 : xIns xg 104 36 = some (.getfield 28) := by decide +kernel
theorem i104_39 : xIns xg 104 39 = some (.getfield 140) := by decide +kernel
theorem i104_42 : xIns xg 104 42 = some (.iload_n 3) := by decide +kernel
theorem i104_43 : xIns xg 104 43 = some (.iaload) := by decide +kernel
theorem i104_44 : xIns xg 104 44 = some (.i2l) := by decide +kernel
theorem i104_45 : xIns xg 104 45 = some (.goto 6) := by decide +kernel
theorem i104_9 : xIns xg 104 9 = some (.ldc2_w 133) := by decide +kernel
theorem i104_12 : xIns xg 104 12 = some (.lreturn) := by decide +kernel
def d_x7_number (N : Nat)  (s : St) (a0 : Int) (a1 : Int) : Option Rs :=
  bI (d_x7_hasPart N  s a0 a1) fun s1 v2 => (if (w32 v2) = 0 then some (s1, (-4611686018427387904)) else bd ((a0 * 24) + a1) fun v3 => if 0 ≤ (w32 v3) ∧ (w32 v3) < ((192 : Nat) : Int) then bI (d_x0_hasNumber N  s1 (s1 19 (Int.toNat (w32 v3)))) fun s4 v5 => (if (w32 v5) = 0 then some (s4, (-4611686018427387904)) else if 0 ≤ (w32 v3) ∧ (w32 v3) < ((192 : Nat) : Int) then some (s4, (w32 (s4 21 (Int.toNat (w32 v3))))) else none) else none)
set_option maxHeartbeats 4000000 in
set_option maxRecDepth 100000 in
theorem c_x7_number {sc : xS} {d : Nat} {R : Rs} (N : Nat)  (hd : 2 ≤ d)   (s : St) (a0 : Int) (a1 : Int) : d_x7_number N  s a0 a1 = some R → vT sc d 104 0 [(0, .ref 0), (1, vi a0), (2, vi a1)] [] s (fun r => r = qL R) := by
  obtain ⟨d, rfl⟩ : ∃ d', d = d' + 1 := ⟨d - 1, by omega⟩
  unfold d_x7_number
  refine vLan 1 i104_0 rfl rfl ?_
  refine vLin 2 i104_1 rfl rfl ?_
  refine vLin 3 i104_2 rfl rfl ?_
  refine vCallI 6 [.ref 0, vi a0, vi a1] [] [(0, .ref 0), (1, vi a0), (2, vi a1)] i104_3 rfl (xlk0 l104_111) (Or.inl rfl) m90 rfl rfl (Nat.le_of_ble_eq_true rfl) (Nat.le_of_ble_eq_true rfl) (Nat.le_of_ble_eq_true rfl) (xh0 sh_0 (by decide)) rfl rfl (fun R1 => c_x7_hasPart N   (by omega) s a0 a1) (fun s1 v2 => ?_)
  refine vZne 13 9 rfl i104_6 rfl rfl ?_ ?_
  · refine vLin 14 i104_13 rfl rfl ?_
    refine vKb 16 i104_14 (by decide) rfl ?_
    refine vImul 17 i104_16 rfl ?_
    refine vLin 18 i104_17 rfl rfl ?_
    refine vIadd 19 i104_18 rfl ?_
    refine vSin 20 (fun v3 => [(3, vi v3), (0, .ref 0), (1, vi a0), (2, vi a1)]) i104_19 m104 (by decide) (fun v3 => (rfl : xst1 [(0, .ref 0), (1, vi a0), (2, vi a1)] 3 (vi v3) = [(3, vi v3), (0, .ref 0), (1, vi a0), (2, vi a1)])) rfl (fun v3 => ?_)
    refine vLan 21 i104_20 rfl rfl ?_
    refine vGetC 24 i104_21 f104_28 sh_0 rfl rfl ?_
    refine vGetC 27 i104_24 f104_115 sh_17 rfl rfl ?_
    refine vLin 28 i104_27 rfl rfl ?_
    refine vIal 29 rfl i104_28 sh_19 rfl ?_
    refine vCallI 32 [vi (s1 19 (Int.toNat (w32 v3)))] [] [(0, vi (s1 19 (Int.toNat (w32 v3))))] i104_29 rfl (xlk1 l104_135) (Or.inr (Or.inl rfl)) m2 rfl rfl (Nat.le_of_ble_eq_true rfl) (Nat.le_of_ble_eq_true rfl) (Nat.le_of_ble_eq_true rfl) rfl rfl rfl (fun R1 => c_x0_hasNumber N   (by omega) s1 (s1 19 (Int.toNat (w32 v3)))) (fun s4 v5 => ?_)
    refine vZeq 48 35 rfl i104_32 rfl rfl ?_ ?_
    · refine vKd 51 i104_48 c104_133 rfl ?_
      exact vRl i104_51 m104
    · refine vLan 36 i104_35 rfl rfl ?_
      refine vGetC 39 i104_36 f104_28 sh_0 rfl rfl ?_
      refine vGetC 42 i104_39 f104_140 sh_17 rfl rfl ?_
      refine vLin 43 i104_42 rfl rfl ?_
      refine vIal 44 rfl i104_43 sh_21 rfl ?_
      refine vI2l 45 i104_44 rfl ?_
      refine vGo 51 i104_45 rfl ?_
      exact vRl i104_51 m104
  · refine vKd 12 i104_9 c104_133 rfl ?_
    exact vRl i104_12 m104
theorem f85_28 : xFld xg 85 28 = some (6, 2) := by decide +kernel
theorem f85_115 : xFld xg 85 115 = some (4, 1) := by decide +kernel
theorem f85_130 : xFld xg 85 130 = some (4, 6) := by decide +kernel
theorem f85_143 : xFld xg 85 143 = some (4, 7) := by decide +kernel
theorem i85_0 : xIns xg 85 0 = some (.aload_n 0) := by decide +kernel
theorem i85_1 : xIns xg 85 1 = some (.iload_n 1) := by decide +kernel
theorem i85_2 : xIns xg 85 2 = some (.iload_n 2) := by decide +kernel
theorem i85_3 : xIns xg 85 3 = some (.invokevirtual 111) := by decide +kernel
theorem i85_6 : xIns xg 85 6 = some (.ifCond .ne 7) := by decide +kernel
theorem i85_13 : xIns xg 85 13 = some (.iload_n 1) := by decide +kernel
theorem i85_14 : xIns xg 85 14 = some (.bipush 24) := by decide +kernel
theorem i85_16 : xIns xg 85 16 = some (.imul) := by decide +kernel
theorem i85_17 : xIns xg 85 17 = some (.iload_n 2) := by decide +kernel
theorem i85_18 : xIns xg 85 18 = some (.iadd) := by decide +kernel
theorem i85_19 : xIns xg 85 19 = some (.istore 4) := by decide +kernel
theorem m85 : (xMet xg 85).2.2 = (5, (some .long)) := by decide +kernel
theorem i85_21 : xIns xg 85 21 = some (.aload_n 0) := by decide +kernel
theorem i85_22 : xIns xg 85 22 = some (.getfield 28) := by decide +kernel
theorem i85_25 : xIns xg 85 25 = some (.getfield 115) := by decide +kernel
theorem i85_28 : xIns xg 85 28 = some (.iload 4) := by decide +kernel
theorem i85_30 : xIns xg 85 30 = some (.iaload) := by decide +kernel
theorem i85_31 : xIns xg 85 31 = some (.iconst 2) := by decide +kernel
theorem i85_32 : xIns xg 85 32 = some (.if_icmp .ne 21) := by decide +kernel
theorem i85_53 : xIns xg 85 53 = some (.ldc2_w 133) := by decide +kernel
theorem c85_133 : xCon xg 85 133 = some (vl (-4611686018427387904)) := by decide +kernel
theorem i85_56 : xIns xg 85 56 = some (.lreturn) := by decide +kernel
theorem i85_35 : xIns xg 85 35 = some (.iload_n 3) := by decide +kernel
theorem i85_36 : xIns xg 85 36 = some (.ifCond .lt 17) := by decide +kernel
theorem i85_39 : xIns xg 85 39 = some (.iload_n 3) := by decide +kernel
theorem i85_40 : xIns xg 85 40 = some (.aload_n 0) := by decide +kernel
theorem i85_41 : xIns xg 85 41 = some (.getfield 28) := by decide +kernel
theorem i85_44 : xIns xg 85 44 = some (.getfield 130) := by decide +kernel
theorem i85_47 : xIns xg 85 47 = some (.iload 4) := by decide +kernel
theorem i85_49 : xIns xg 85 49 = some (.iaload) := by decide +kernel
theorem i85_50 : xIns xg 85 50 = some (.if_icmp .lt 7) := by decide +kernel
theorem i85_57 : xIns xg 85 57 = some (.aload_n 0) := by decide +kernel
theorem i85_58 : xIns xg 85 58 = some (.getfield 28) := by decide +kernel
theorem i85_61 : xIns xg 85 61 = some (.getfield 143) := by decide +kernel
theorem i85_64 : xIns xg 85 64 = some (.iload 4) := by decide +kernel
theorem i85_66 : xIns xg 85 66 = some (.bipush 8) := by decide +kernel
theorem i85_68 : xIns xg 85 68 = some (.imul) := by decide +kernel
theorem i85_69 : xIns xg 85 69 = some (.iload_n 3) := by decide +kernel
theorem i85_70 : xIns xg 85 70 = some (.iadd) := by decide +kernel
theorem i85_71 : xIns xg 85 71 = some (.laload) := by decide +kernel
theorem i85_72 : xIns xg 85 72 = some (.lreturn) := by decide +kernel
theorem i85_9 : xIns xg 85 9 = some (.ldc2_w 133) := by decide +kernel
theorem i85_12 : xIns xg 85 12 = some (.lreturn) := by decide +kernel
def d_x7_entry (N : Nat)  (s : St) (a0 : Int) (a1 : Int) (a2 : Int) : Option Rs :=
  bI (d_x7_hasPart N  s a0 a1) fun s1 v2 => (if (w32 v2) = 0 then some (s1, (-4611686018427387904)) else bd ((a0 * 24) + a1) fun v3 => if 0 ≤ (w32 v3) ∧ (w32 v3) < ((192 : Nat) : Int) then (if (w32 (s1 19 (Int.toNat (w32 v3)))) = 2 then (if (w32 a2) < 0 then some (s1, (-4611686018427387904)) else if 0 ≤ (w32 v3) ∧ (w32 v3) < ((192 : Nat) : Int) then (if (w32 a2) < (w32 (s1 24 (Int.toNat (w32 v3)))) then if 0 ≤ (w32 ((v3 * 8) + a2)) ∧ (w32 ((v3 * 8) + a2)) < ((1536 : Nat) : Int) then some (s1, (s1 25 (Int.toNat (w32 ((v3 * 8) + a2))))) else none else some (s1, (-4611686018427387904))) else none) else some (s1, (-4611686018427387904))) else none)
set_option maxHeartbeats 4000000 in
set_option maxRecDepth 100000 in
theorem c_x7_entry {sc : xS} {d : Nat} {R : Rs} (N : Nat)  (hd : 2 ≤ d)   (s : St) (a0 : Int) (a1 : Int) (a2 : Int) : d_x7_entry N  s a0 a1 a2 = some R → vT sc d 85 0 [(0, .ref 0), (1, vi a0), (2, vi a1), (3, vi a2)] [] s (fun r => r = qL R) := by
  obtain ⟨d, rfl⟩ : ∃ d', d = d' + 1 := ⟨d - 1, by omega⟩
  unfold d_x7_entry
  refine vLan 1 i85_0 rfl rfl ?_
  refine vLin 2 i85_1 rfl rfl ?_
  refine vLin 3 i85_2 rfl rfl ?_
  refine vCallI 6 [.ref 0, vi a0, vi a1] [] [(0, .ref 0), (1, vi a0), (2, vi a1)] i85_3 rfl (xlk0 l85_111) (Or.inl rfl) m90 rfl rfl (Nat.le_of_ble_eq_true rfl) (Nat.le_of_ble_eq_true rfl) (Nat.le_of_ble_eq_true rfl) (xh0 sh_0 (by decide)) rfl rfl (fun R1 => c_x7_hasPart N   (by omega) s a0 a1) (fun s1 v2 => ?_)
  refine vZne 13 9 rfl i85_6 rfl rfl ?_ ?_
  · refine vLin 14 i85_13 rfl rfl ?_
    refine vKb 16 i85_14 (by decide) rfl ?_
    refine vImul 17 i85_16 rfl ?_
    refine vLin 18 i85_17 rfl rfl ?_
    refine vIadd 19 i85_18 rfl ?_
    refine vSi 21 (fun v3 => [(4, vi v3), (0, .ref 0), (1, vi a0), (2, vi a1), (3, vi a2)]) i85_19 m85 (by decide) (fun v3 => (rfl : xst1 [(0, .ref 0), (1, vi a0), (2, vi a1), (3, vi a2)] 4 (vi v3) = [(4, vi v3), (0, .ref 0), (1, vi a0), (2, vi a1), (3, vi a2)])) rfl (fun v3 => ?_)
    refine vLan 22 i85_21 rfl rfl ?_
    refine vGetC 25 i85_22 f85_28 sh_0 rfl rfl ?_
    refine vGetC 28 i85_25 f85_115 sh_17 rfl rfl ?_
    refine vLi 30 i85_28 rfl rfl ?_
    refine vIal 31 rfl i85_30 sh_19 rfl ?_
    refine vK 32 i85_31 rfl ?_
    refine vCne 53 35 rfl (show w32 2 = 2 from rfl) i85_32 rfl rfl ?_ ?_
    · refine vKd 56 i85_53 c85_133 rfl ?_
      exact vRl i85_56 m85
    · refine vLin 36 i85_35 rfl rfl ?_
      refine vZlt 53 39 rfl i85_36 rfl rfl ?_ ?_
      · refine vKd 56 i85_53 c85_133 rfl ?_
        exact vRl i85_56 m85
      · refine vLin 40 i85_39 rfl rfl ?_
        refine vLan 41 i85_40 rfl rfl ?_
        refine vGetC 44 i85_41 f85_28 sh_0 rfl rfl ?_
        refine vGetC 47 i85_44 f85_130 sh_17 rfl rfl ?_
        refine vLi 49 i85_47 rfl rfl ?_
        refine vIal 50 rfl i85_49 sh_24 rfl ?_
        refine vClt 57 53 rfl rfl i85_50 rfl rfl ?_ ?_
        · refine vLan 58 i85_57 rfl rfl ?_
          refine vGetC 61 i85_58 f85_28 sh_0 rfl rfl ?_
          refine vGetC 64 i85_61 f85_143 sh_17 rfl rfl ?_
          refine vLi 66 i85_64 rfl rfl ?_
          refine vKb 68 i85_66 (by decide) rfl ?_
          refine vImul 69 i85_68 rfl ?_
          refine vLin 70 i85_69 rfl rfl ?_
          refine vIadd 71 i85_70 rfl ?_
          refine vLal 72 rfl i85_71 sh_25 rfl ?_
          exact vRl i85_72 m85
        · refine vKd 56 i85_53 c85_133 rfl ?_
          exact vRl i85_56 m85
  · refine vKd 12 i85_9 c85_133 rfl ?_
    exact vRl i85_12 m85
theorem f119_28 : xFld xg 119 28 = some (6, 2) := by decide +kernel
theorem f119_115 : xFld xg 119 115 = some (4, 1) := by decide +kernel
theorem f119_140 : xFld xg 119 140 = some (4, 3) := by decide +kernel
theorem f119_35 : xFld xg 119 35 = some (6, 3) := by decide +kernel
theorem i119_0 : xIns xg 119 0 = some (.iload_n 1) := by decide +kernel
theorem i119_1 : xIns xg 119 1 = some (.invokestatic 86) := by decide +kernel
theorem i119_4 : xIns xg 119 4 = some (.ifCond .eq 17) := by decide +kernel
theorem i119_21 : xIns xg 119 21 = some (.bipush (-2)) := by decide +kernel
theorem i119_23 : xIns xg 119 23 = some (.ireturn) := by decide +kernel
theorem m119 : (xMet xg 119).2.2 = (6, (some .int)) := by decide +kernel
theorem i119_7 : xIns xg 119 7 = some (.iload_n 3) := by decide +kernel
theorem i119_8 : xIns xg 119 8 = some (.sipush (-9999)) := by decide +kernel
theorem i119_11 : xIns xg 119 11 = some (.if_icmp .lt 10) := by decide +kernel
theorem i119_14 : xIns xg 119 14 = some (.iload_n 3) := by decide +kernel
theorem i119_15 : xIns xg 119 15 = some (.sipush 9999) := by decide +kernel
theorem i119_18 : xIns xg 119 18 = some (.if_icmp .le 6) := by decide +kernel
theorem i119_24 : xIns xg 119 24 = some (.aload_n 0) := by decide +kernel
theorem i119_25 : xIns xg 119 25 = some (.iload_n 1) := by decide +kernel
theorem i119_26 : xIns xg 119 26 = some (.invokevirtual 108) := by decide +kernel
theorem i119_29 : xIns xg 119 29 = some (.ifCond .eq 6) := by decide +kernel
theorem i119_35 : xIns xg 119 35 = some (.aload_n 0) := by decide +kernel
theorem i119_36 : xIns xg 119 36 = some (.iload_n 1) := by decide +kernel
theorem i119_37 : xIns xg 119 37 = some (.iload_n 2) := by decide +kernel
theorem i119_38 : xIns xg 119 38 = some (.invokevirtual 111) := by decide +kernel
theorem i119_41 : xIns xg 119 41 = some (.ifCond .ne 6) := by decide +kernel
theorem i119_47 : xIns xg 119 47 = some (.iload_n 1) := by decide +kernel
theorem i119_48 : xIns xg 119 48 = some (.bipush 24) := by decide +kernel
theorem i119_50 : xIns xg 119 50 = some (.imul) := by decide +kernel
theorem i119_51 : xIns xg 119 51 = some (.iload_n 2) := by decide +kernel
theorem i119_52 : xIns xg 119 52 = some (.iadd) := by decide +kernel
theorem i119_53 : xIns xg 119 53 = some (.istore 4) := by decide +kernel
theorem i119_55 : xIns xg 119 55 = some (.aload_n 0) := by decide +kernel
theorem i119_56 : xIns xg 119 56 = some (.getfield 28) := by decide +kernel
theorem i119_59 : xIns xg 119 59 = some (.getfield 115) := by decide +kernel
theorem i119_62 : xIns xg 119 62 = some (.iload 4) := by decide +kernel
theorem i119_64 : xIns xg 119 64 = some (.iaload) := by decide +kernel
theorem i119_65 : xIns xg 119 65 = some (.istore 5) := by decide +kernel
theorem i119_67 : xIns xg 119 67 = some (.iload 5) := by decide +kernel
theorem i119_69 : xIns xg 119 69 = some (.invokestatic 135) := by decide +kernel
theorem i119_72 : xIns xg 119 72 = some (.ifCond .ne 6) := by decide +kernel
theorem i119_78 : xIns xg 119 78 = some (.iload 5) := by decide +kernel
theorem i119_80 : xIns xg 119 80 = some (.iload_n 3) := by decide +kernel
theorem i119_81 : xIns xg 119 81 = some (.invokestatic 146) := by decide +kernel
theorem i119_84 : xIns xg 119 84 = some (.ifCond .ne 6) := by decide +kernel
theorem i119_90 : xIns xg 119 90 = some (.aload_n 0) := by decide +kernel
theorem i119_91 : xIns xg 119 91 = some (.getfield 28) := by decide +kernel
theorem i119_94 : xIns xg 119 94 = some (.getfield 140) := by decide +kernel
theorem i119_97 : xIns xg 119 97 = some (.iload 4) := by decide +kernel
theorem i119_99 : xIns xg 119 99 = some (.iload_n 3) := by decide +kernel
theorem i119_100 : xIns xg 119 100 = some (.iastore) := by decide +kernel
theorem i119_101 : xIns xg 119 101 = some (.aload_n 0) := by decide +kernel
theorem i119_102 : xIns xg 119 102 = some (.getfield 35) := by decide +kernel
theorem i119_105 : xIns xg 119 105 = some (.invokevirtual 101) := by decide +kernel
theorem i119_108 : xIns xg 119 108 = some (.iconst 1) := by decide +kernel
theorem i119_109 : xIns xg 119 109 = some (.ireturn) := by decide +kernel
theorem i119_87 : xIns xg 119 87 = some (.bipush (-2)) := by decide +kernel
theorem i119_89 : xIns xg 119 89 = some (.ireturn) := by decide +kernel
theorem i119_75 : xIns xg 119 75 = some (.bipush (-13)) := by decide +kernel
theorem i119_77 : xIns xg 119 77 = some (.ireturn) := by decide +kernel
theorem i119_44 : xIns xg 119 44 = some (.bipush (-12)) := by decide +kernel
theorem i119_46 : xIns xg 119 46 = some (.ireturn) := by decide +kernel
theorem i119_32 : xIns xg 119 32 = some (.bipush (-3)) := by decide +kernel
theorem i119_34 : xIns xg 119 34 = some (.ireturn) := by decide +kernel
def d_x7_twist (N : Nat)  (s : St) (a0 : Int) (a1 : Int) (a2 : Int) : Option Rs :=
  bI (d_x7_isStream N  s a0) fun s1 v2 => (if (w32 v2) = 0 then some (s1, (-2)) else (if (w32 a2) < (-9999) then some (s1, (-2)) else (if 9999 < (w32 a2) then some (s1, (-2)) else bI (d_x7_isEmpty N  s1 a0) fun s3 v4 => (if (w32 v4) = 0 then bI (d_x7_hasPart N  s3 a0 a1) fun s5 v6 => (if (w32 v6) = 0 then some (s5, (-12)) else bd ((a0 * 24) + a1) fun v7 => if 0 ≤ (w32 v7) ∧ (w32 v7) < ((192 : Nat) : Int) then bd (s5 19 (Int.toNat (w32 v7))) fun v8 => bI (d_x0_hasNumber N  s5 v8) fun s9 v10 => (if (w32 v10) = 0 then some (s9, (-13)) else bI (d_x0_allows N  s9 v8 a2) fun s11 v12 => (if (w32 v12) = 0 then some (s11, (-2)) else if 0 ≤ (w32 v7) ∧ (w32 v7) < ((192 : Nat) : Int) then bd (up s11 21 (Int.toNat (w32 v7)) a2) fun s13 => bV (d_x6_untell N 26 s13 ) fun s14 => some (s14, 1) else none)) else none) else some (s3, (-3))))))
set_option maxHeartbeats 4000000 in
set_option maxRecDepth 100000 in
theorem c_x7_twist {sc : xS} {d : Nat} {R : Rs} (N : Nat)  (hd : 2 ≤ d)   (s : St) (a0 : Int) (a1 : Int) (a2 : Int) : d_x7_twist N  s a0 a1 a2 = some R → vT sc d 119 0 [(0, .ref 0), (1, vi a0), (2, vi a1), (3, vi a2)] [] s (fun r => r = qI R) := by
  obtain ⟨d, rfl⟩ : ∃ d', d = d' + 1 := ⟨d - 1, by omega⟩
  unfold d_x7_twist
  refine vLin 1 i119_0 rfl rfl ?_
  refine vCallI 4 [vi a0] [] [(0, vi a0)] i119_1 rfl (xlk1 l119_86) (Or.inr (Or.inl rfl)) m98 rfl rfl (Nat.le_of_ble_eq_true rfl) (Nat.le_of_ble_eq_true rfl) (Nat.le_of_ble_eq_true rfl) rfl rfl rfl (fun R1 => c_x7_isStream N   (by omega) s a0) (fun s1 v2 => ?_)
  refine vZeq 21 7 rfl i119_4 rfl rfl ?_ ?_
  · refine vKb 23 i119_21 (by decide) rfl ?_
    exact vRi i119_23 m119 rfl
  · refine vLin 8 i119_7 rfl rfl ?_
    refine vKs 11 i119_8 (by decide) rfl ?_
    refine vClt 21 14 rfl (show w32 (-9999) = (-9999) from rfl) i119_11 rfl rfl ?_ ?_
    · refine vKb 23 i119_21 (by decide) rfl ?_
      exact vRi i119_23 m119 rfl
    · refine vLin 15 i119_14 rfl rfl ?_
      refine vKs 18 i119_15 (by decide) rfl ?_
      refine vCle 24 21 rfl (show w32 9999 = 9999 from rfl) i119_18 rfl rfl ?_ ?_
      · refine vLan 25 i119_24 rfl rfl ?_
        refine vLin 26 i119_25 rfl rfl ?_
        refine vCallI 29 [.ref 0, vi a0] [] [(0, .ref 0), (1, vi a0)] i119_26 rfl (xlk0 l119_108) (Or.inl rfl) m95 rfl rfl (Nat.le_of_ble_eq_true rfl) (Nat.le_of_ble_eq_true rfl) (Nat.le_of_ble_eq_true rfl) (xh0 sh_0 (by decide)) rfl rfl (fun R1 => c_x7_isEmpty N   (by omega) s1 a0) (fun s3 v4 => ?_)
        refine vZeq 35 32 rfl i119_29 rfl rfl ?_ ?_
        · refine vLan 36 i119_35 rfl rfl ?_
          refine vLin 37 i119_36 rfl rfl ?_
          refine vLin 38 i119_37 rfl rfl ?_
          refine vCallI 41 [.ref 0, vi a0, vi a1] [] [(0, .ref 0), (1, vi a0), (2, vi a1)] i119_38 rfl (xlk0 l119_111) (Or.inl rfl) m90 rfl rfl (Nat.le_of_ble_eq_true rfl) (Nat.le_of_ble_eq_true rfl) (Nat.le_of_ble_eq_true rfl) (xh0 sh_0 (by decide)) rfl rfl (fun R1 => c_x7_hasPart N   (by omega) s3 a0 a1) (fun s5 v6 => ?_)
          refine vZne 47 44 rfl i119_41 rfl rfl ?_ ?_
          · refine vLin 48 i119_47 rfl rfl ?_
            refine vKb 50 i119_48 (by decide) rfl ?_
            refine vImul 51 i119_50 rfl ?_
            refine vLin 52 i119_51 rfl rfl ?_
            refine vIadd 53 i119_52 rfl ?_
            refine vSi 55 (fun v7 => [(4, vi v7), (0, .ref 0), (1, vi a0), (2, vi a1), (3, vi a2)]) i119_53 m119 (by decide) (fun v7 => (rfl : xst1 [(0, .ref 0), (1, vi a0), (2, vi a1), (3, vi a2)] 4 (vi v7) = [(4, vi v7), (0, .ref 0), (1, vi a0), (2, vi a1), (3, vi a2)])) rfl (fun v7 => ?_)
            refine vLan 56 i119_55 rfl rfl ?_
            refine vGetC 59 i119_56 f119_28 sh_0 rfl rfl ?_
            refine vGetC 62 i119_59 f119_115 sh_17 rfl rfl ?_
            refine vLi 64 i119_62 rfl rfl ?_
            refine vIal 65 rfl i119_64 sh_19 rfl ?_
            refine vSi 67 (fun v8 => [(5, vi v8), (4, vi v7), (0, .ref 0), (1, vi a0), (2, vi a1), (3, vi a2)]) i119_65 m119 (by decide) (fun v8 => (rfl : xst1 [(4, vi v7), (0, .ref 0), (1, vi a0), (2, vi a1), (3, vi a2)] 5 (vi v8) = [(5, vi v8), (4, vi v7), (0, .ref 0), (1, vi a0), (2, vi a1), (3, vi a2)])) rfl (fun v8 => ?_)
            refine vLi 69 i119_67 rfl rfl ?_
            refine vCallI 72 [vi v8] [] [(0, vi v8)] i119_69 rfl (xlk1 l119_135) (Or.inr (Or.inl rfl)) m2 rfl rfl (Nat.le_of_ble_eq_true rfl) (Nat.le_of_ble_eq_true rfl) (Nat.le_of_ble_eq_true rfl) rfl rfl rfl (fun R1 => c_x0_hasNumber N   (by omega) s5 v8) (fun s9 v10 => ?_)
            refine vZne 78 75 rfl i119_72 rfl rfl ?_ ?_
            · refine vLi 80 i119_78 rfl rfl ?_
              refine vLin 81 i119_80 rfl rfl ?_
              refine vCallI 84 [vi v8, vi a2] [] [(0, vi v8), (1, vi a2)] i119_81 rfl (xlk1 l119_146) (Or.inr (Or.inl rfl)) m1 rfl rfl (Nat.le_of_ble_eq_true rfl) (Nat.le_of_ble_eq_true rfl) (Nat.le_of_ble_eq_true rfl) rfl rfl rfl (fun R1 => c_x0_allows N   (by omega) s9 v8 a2) (fun s11 v12 => ?_)
              refine vZne 90 87 rfl i119_84 rfl rfl ?_ ?_
              · refine vLan 91 i119_90 rfl rfl ?_
                refine vGetC 94 i119_91 f119_28 sh_0 rfl rfl ?_
                refine vGetC 97 i119_94 f119_140 sh_17 rfl rfl ?_
                refine vLi 99 i119_97 rfl rfl ?_
                refine vLin 100 i119_99 rfl rfl ?_
                refine vIas 101 rfl i119_100 sh_21 rfl (fun s13 => ?_)
                refine vLan 102 i119_101 rfl rfl ?_
                refine vGetC 105 i119_102 f119_35 sh_0 rfl rfl ?_
                refine vCallV 108 [.ref 26] [] [(0, .ref 26)] i119_105 rfl (xlk0 l119_101) (Or.inl rfl) m77 rfl rfl (Nat.le_of_ble_eq_true rfl) (Nat.le_of_ble_eq_true rfl) (Nat.le_of_ble_eq_true rfl) (xh0 sh_26 (by decide)) rfl rfl (fun R1 => c_x6_untell N 26 isTold_26 (by omega) s13 ) (fun s14 => ?_)
                refine vK 109 i119_108 rfl ?_
                exact vRi i119_109 m119 rfl
              · refine vKb 89 i119_87 (by decide) rfl ?_
                exact vRi i119_89 m119 rfl
            · refine vKb 77 i119_75 (by decide) rfl ?_
              exact vRi i119_77 m119 rfl
          · refine vKb 46 i119_44 (by decide) rfl ?_
            exact vRi i119_46 m119 rfl
        · refine vKb 34 i119_32 (by decide) rfl ?_
          exact vRi i119_34 m119 rfl
      · refine vKb 23 i119_21 (by decide) rfl ?_
        exact vRi i119_23 m119 rfl
theorem f113_28 : xFld xg 113 28 = some (6, 2) := by decide +kernel
theorem f113_115 : xFld xg 113 115 = some (4, 1) := by decide +kernel
theorem f113_118 : xFld xg 113 118 = some (4, 5) := by decide +kernel
theorem i113_0 : xIns xg 113 0 = some (.iload_n 1) := by decide +kernel
theorem i113_1 : xIns xg 113 1 = some (.invokestatic 86) := by decide +kernel
theorem i113_4 : xIns xg 113 4 = some (.ifCond .eq 12) := by decide +kernel
theorem i113_16 : xIns xg 113 16 = some (.bipush (-2)) := by decide +kernel
theorem i113_18 : xIns xg 113 18 = some (.ireturn) := by decide +kernel
theorem m113 : (xMet xg 113).2.2 = (5, (some .int)) := by decide +kernel
theorem i113_7 : xIns xg 113 7 = some (.iload_n 3) := by decide +kernel
theorem i113_8 : xIns xg 113 8 = some (.ifCond .lt 8) := by decide +kernel
theorem i113_11 : xIns xg 113 11 = some (.iload_n 3) := by decide +kernel
theorem i113_12 : xIns xg 113 12 = some (.iconst 2) := by decide +kernel
theorem i113_13 : xIns xg 113 13 = some (.if_icmp .le 6) := by decide +kernel
theorem i113_19 : xIns xg 113 19 = some (.aload_n 0) := by decide +kernel
theorem i113_20 : xIns xg 113 20 = some (.iload_n 1) := by decide +kernel
theorem i113_21 : xIns xg 113 21 = some (.invokevirtual 108) := by decide +kernel
theorem i113_24 : xIns xg 113 24 = some (.ifCond .eq 6) := by decide +kernel
theorem i113_30 : xIns xg 113 30 = some (.aload_n 0) := by decide +kernel
theorem i113_31 : xIns xg 113 31 = some (.iload_n 1) := by decide +kernel
theorem i113_32 : xIns xg 113 32 = some (.iload_n 2) := by decide +kernel
theorem i113_33 : xIns xg 113 33 = some (.invokevirtual 111) := by decide +kernel
theorem i113_36 : xIns xg 113 36 = some (.ifCond .ne 6) := by decide +kernel
theorem i113_42 : xIns xg 113 42 = some (.iload_n 1) := by decide +kernel
theorem i113_43 : xIns xg 113 43 = some (.bipush 24) := by decide +kernel
theorem i113_45 : xIns xg 113 45 = some (.imul) := by decide +kernel
theorem i113_46 : xIns xg 113 46 = some (.iload_n 2) := by decide +kernel
theorem i113_47 : xIns xg 113 47 = some (.iadd) := by decide +kernel
theorem i113_48 : xIns xg 113 48 = some (.istore 4) := by decide +kernel
theorem i113_50 : xIns xg 113 50 = some (.aload_n 0) := by decide +kernel
theorem i113_51 : xIns xg 113 51 = some (.getfield 28) := by decide +kernel
theorem i113_54 : xIns xg 113 54 = some (.getfield 115) := by decide +kernel
theorem i113_57 : xIns xg 113 57 = some (.iload 4) := by decide +kernel
theorem i113_59 : xIns xg 113 59 = some (.iaload) := by decide +kernel
theorem i113_60 : xIns xg 113 60 = some (.invokestatic 149) := by decide +kernel
theorem i113_63 : xIns xg 113 63 = some (.iload_n 3) := by decide +kernel
theorem i113_64 : xIns xg 113 64 = some (.if_icmp .eq 6) := by decide +kernel
theorem i113_70 : xIns xg 113 70 = some (.aload_n 0) := by decide +kernel
theorem i113_71 : xIns xg 113 71 = some (.getfield 28) := by decide +kernel
theorem i113_74 : xIns xg 113 74 = some (.getfield 118) := by decide +kernel
theorem i113_77 : xIns xg 113 77 = some (.iload 4) := by decide +kernel
theorem i113_79 : xIns xg 113 79 = some (.iaload) := by decide +kernel
theorem i113_80 : xIns xg 113 80 = some (.iconst 1) := by decide +kernel
theorem i113_81 : xIns xg 113 81 = some (.isub) := by decide +kernel
theorem i113_82 : xIns xg 113 82 = some (.ireturn) := by decide +kernel
theorem i113_67 : xIns xg 113 67 = some (.bipush (-13)) := by decide +kernel
theorem i113_69 : xIns xg 113 69 = some (.ireturn) := by decide +kernel
theorem i113_39 : xIns xg 113 39 = some (.bipush (-12)) := by decide +kernel
theorem i113_41 : xIns xg 113 41 = some (.ireturn) := by decide +kernel
theorem i113_27 : xIns xg 113 27 = some (.bipush (-3)) := by decide +kernel
theorem i113_29 : xIns xg 113 29 = some (.ireturn) := by decide +kernel
def d_x7_taken (N : Nat)  (s : St) (a0 : Int) (a1 : Int) (a2 : Int) : Option Rs :=
  bI (d_x7_isStream N  s a0) fun s1 v2 => (if (w32 v2) = 0 then some (s1, (-2)) else (if (w32 a2) < 0 then some (s1, (-2)) else (if 2 < (w32 a2) then some (s1, (-2)) else bI (d_x7_isEmpty N  s1 a0) fun s3 v4 => (if (w32 v4) = 0 then bI (d_x7_hasPart N  s3 a0 a1) fun s5 v6 => (if (w32 v6) = 0 then some (s5, (-12)) else bd ((a0 * 24) + a1) fun v7 => if 0 ≤ (w32 v7) ∧ (w32 v7) < ((192 : Nat) : Int) then bI (d_x0_rows N  s5 (s5 19 (Int.toNat (w32 v7)))) fun s8 v9 => (if (w32 v9) = (w32 a2) then if 0 ≤ (w32 v7) ∧ (w32 v7) < ((192 : Nat) : Int) then some (s8, ((s8 23 (Int.toNat (w32 v7))) - 1)) else none else some (s8, (-13))) else none) else some (s3, (-3))))))
set_option maxHeartbeats 4000000 in
set_option maxRecDepth 100000 in
theorem c_x7_taken {sc : xS} {d : Nat} {R : Rs} (N : Nat)  (hd : 2 ≤ d)   (s : St) (a0 : Int) (a1 : Int) (a2 : Int) : d_x7_taken N  s a0 a1 a2 = some R → vT sc d 113 0 [(0, .ref 0), (1, vi a0), (2, vi a1), (3, vi a2)] [] s (fun r => r = qI R) := by
  obtain ⟨d, rfl⟩ : ∃ d', d = d' + 1 := ⟨d - 1, by omega⟩
  unfold d_x7_taken
  refine vLin 1 i113_0 rfl rfl ?_
  refine vCallI 4 [vi a0] [] [(0, vi a0)] i113_1 rfl (xlk1 l113_86) (Or.inr (Or.inl rfl)) m98 rfl rfl (Nat.le_of_ble_eq_true rfl) (Nat.le_of_ble_eq_true rfl) (Nat.le_of_ble_eq_true rfl) rfl rfl rfl (fun R1 => c_x7_isStream N   (by omega) s a0) (fun s1 v2 => ?_)
  refine vZeq 16 7 rfl i113_4 rfl rfl ?_ ?_
  · refine vKb 18 i113_16 (by decide) rfl ?_
    exact vRi i113_18 m113 rfl
  · refine vLin 8 i113_7 rfl rfl ?_
    refine vZlt 16 11 rfl i113_8 rfl rfl ?_ ?_
    · refine vKb 18 i113_16 (by decide) rfl ?_
      exact vRi i113_18 m113 rfl
    · refine vLin 12 i113_11 rfl rfl ?_
      refine vK 13 i113_12 rfl ?_
      refine vCle 19 16 rfl (show w32 2 = 2 from rfl) i113_13 rfl rfl ?_ ?_
      · refine vLan 20 i113_19 rfl rfl ?_
        refine vLin 21 i113_20 rfl rfl ?_
        refine vCallI 24 [.ref 0, vi a0] [] [(0, .ref 0), (1, vi a0)] i113_21 rfl (xlk0 l113_108) (Or.inl rfl) m95 rfl rfl (Nat.le_of_ble_eq_true rfl) (Nat.le_of_ble_eq_true rfl) (Nat.le_of_ble_eq_true rfl) (xh0 sh_0 (by decide)) rfl rfl (fun R1 => c_x7_isEmpty N   (by omega) s1 a0) (fun s3 v4 => ?_)
        refine vZeq 30 27 rfl i113_24 rfl rfl ?_ ?_
        · refine vLan 31 i113_30 rfl rfl ?_
          refine vLin 32 i113_31 rfl rfl ?_
          refine vLin 33 i113_32 rfl rfl ?_
          refine vCallI 36 [.ref 0, vi a0, vi a1] [] [(0, .ref 0), (1, vi a0), (2, vi a1)] i113_33 rfl (xlk0 l113_111) (Or.inl rfl) m90 rfl rfl (Nat.le_of_ble_eq_true rfl) (Nat.le_of_ble_eq_true rfl) (Nat.le_of_ble_eq_true rfl) (xh0 sh_0 (by decide)) rfl rfl (fun R1 => c_x7_hasPart N   (by omega) s3 a0 a1) (fun s5 v6 => ?_)
          refine vZne 42 39 rfl i113_36 rfl rfl ?_ ?_
          · refine vLin 43 i113_42 rfl rfl ?_
            refine vKb 45 i113_43 (by decide) rfl ?_
            refine vImul 46 i113_45 rfl ?_
            refine vLin 47 i113_46 rfl rfl ?_
            refine vIadd 48 i113_47 rfl ?_
            refine vSi 50 (fun v7 => [(4, vi v7), (0, .ref 0), (1, vi a0), (2, vi a1), (3, vi a2)]) i113_48 m113 (by decide) (fun v7 => (rfl : xst1 [(0, .ref 0), (1, vi a0), (2, vi a1), (3, vi a2)] 4 (vi v7) = [(4, vi v7), (0, .ref 0), (1, vi a0), (2, vi a1), (3, vi a2)])) rfl (fun v7 => ?_)
            refine vLan 51 i113_50 rfl rfl ?_
            refine vGetC 54 i113_51 f113_28 sh_0 rfl rfl ?_
            refine vGetC 57 i113_54 f113_115 sh_17 rfl rfl ?_
            refine vLi 59 i113_57 rfl rfl ?_
            refine vIal 60 rfl i113_59 sh_19 rfl ?_
            refine vCallI 63 [vi (s5 19 (Int.toNat (w32 v7)))] [] [(0, vi (s5 19 (Int.toNat (w32 v7))))] i113_60 rfl (xlk1 l113_149) (Or.inr (Or.inl rfl)) m3 rfl rfl (Nat.le_of_ble_eq_true rfl) (Nat.le_of_ble_eq_true rfl) (Nat.le_of_ble_eq_true rfl) rfl rfl rfl (fun R1 => c_x0_rows N   (by omega) s5 (s5 19 (Int.toNat (w32 v7)))) (fun s8 v9 => ?_)
            refine vLin 64 i113_63 rfl rfl ?_
            refine vCeq 70 67 rfl rfl i113_64 rfl rfl ?_ ?_
            · refine vLan 71 i113_70 rfl rfl ?_
              refine vGetC 74 i113_71 f113_28 sh_0 rfl rfl ?_
              refine vGetC 77 i113_74 f113_118 sh_17 rfl rfl ?_
              refine vLi 79 i113_77 rfl rfl ?_
              refine vIal 80 rfl i113_79 sh_23 rfl ?_
              refine vK 81 i113_80 rfl ?_
              refine vIsub 82 i113_81 rfl ?_
              exact vRi i113_82 m113 rfl
            · refine vKb 69 i113_67 (by decide) rfl ?_
              exact vRi i113_69 m113 rfl
          · refine vKb 41 i113_39 (by decide) rfl ?_
            exact vRi i113_41 m113 rfl
        · refine vKb 29 i113_27 (by decide) rfl ?_
          exact vRi i113_29 m113 rfl
      · refine vKb 18 i113_16 (by decide) rfl ?_
        exact vRi i113_18 m113 rfl
theorem f106_19 : xFld xg 106 19 = some (6, 1) := by decide +kernel
theorem f106_28 : xFld xg 106 28 = some (6, 2) := by decide +kernel
theorem f106_156 : xFld xg 106 156 = some (0, 1) := by decide +kernel
theorem f106_159 : xFld xg 106 159 = some (0, 0) := by decide +kernel
theorem i106_0 : xIns xg 106 0 = some (.iload_n 1) := by decide +kernel
theorem i106_1 : xIns xg 106 1 = some (.invokestatic 86) := by decide +kernel
theorem i106_4 : xIns xg 106 4 = some (.ifCond .ne 6) := by decide +kernel
theorem i106_10 : xIns xg 106 10 = some (.aload_n 0) := by decide +kernel
theorem i106_11 : xIns xg 106 11 = some (.iload_n 1) := by decide +kernel
theorem i106_12 : xIns xg 106 12 = some (.invokevirtual 108) := by decide +kernel
theorem i106_15 : xIns xg 106 15 = some (.ifCond .eq 6) := by decide +kernel
theorem i106_21 : xIns xg 106 21 = some (.aload_n 0) := by decide +kernel
theorem i106_22 : xIns xg 106 22 = some (.getfield 19) := by decide +kernel
theorem i106_25 : xIns xg 106 25 = some (.aload_n 0) := by decide +kernel
theorem i106_26 : xIns xg 106 26 = some (.getfield 28) := by decide +kernel
theorem i106_29 : xIns xg 106 29 = some (.iload_n 1) := by decide +kernel
theorem i106_30 : xIns xg 106 30 = some (.invokevirtual 152) := by decide +kernel
theorem i106_33 : xIns xg 106 33 = some (.iload_n 2) := by decide +kernel
theorem i106_34 : xIns xg 106 34 = some (.iconst (-1)) := by decide +kernel
theorem i106_35 : xIns xg 106 35 = some (.if_icmp .ne 11) := by decide +kernel
theorem i106_46 : xIns xg 106 46 = some (.iload_n 2) := by decide +kernel
theorem i106_47 : xIns xg 106 47 = some (.ifCond .lt 14) := by decide +kernel
theorem i106_61 : xIns xg 106 61 = some (.bipush (-12)) := by decide +kernel
theorem i106_63 : xIns xg 106 63 = some (.ireturn) := by decide +kernel
theorem m106 : (xMet xg 106).2.2 = (3, (some .int)) := by decide +kernel
theorem i106_50 : xIns xg 106 50 = some (.iload_n 2) := by decide +kernel
theorem i106_51 : xIns xg 106 51 = some (.aload_n 0) := by decide +kernel
theorem i106_52 : xIns xg 106 52 = some (.getfield 19) := by decide +kernel
theorem i106_55 : xIns xg 106 55 = some (.getfield 156) := by decide +kernel
theorem i106_58 : xIns xg 106 58 = some (.if_icmp .lt 6) := by decide +kernel
theorem i106_64 : xIns xg 106 64 = some (.aload_n 0) := by decide +kernel
theorem i106_65 : xIns xg 106 65 = some (.getfield 19) := by decide +kernel
theorem i106_68 : xIns xg 106 68 = some (.getfield 159) := by decide +kernel
theorem i106_71 : xIns xg 106 71 = some (.iload_n 2) := by decide +kernel
theorem i106_72 : xIns xg 106 72 = some (.iaload) := by decide +kernel
theorem i106_73 : xIns xg 106 73 = some (.ireturn) := by decide +kernel
theorem i106_38 : xIns xg 106 38 = some (.aload_n 0) := by decide +kernel
theorem i106_39 : xIns xg 106 39 = some (.getfield 19) := by decide +kernel
theorem i106_42 : xIns xg 106 42 = some (.getfield 156) := by decide +kernel
theorem i106_45 : xIns xg 106 45 = some (.ireturn) := by decide +kernel
theorem i106_18 : xIns xg 106 18 = some (.bipush (-3)) := by decide +kernel
theorem i106_20 : xIns xg 106 20 = some (.ireturn) := by decide +kernel
theorem i106_7 : xIns xg 106 7 = some (.bipush (-2)) := by decide +kernel
theorem i106_9 : xIns xg 106 9 = some (.ireturn) := by decide +kernel
def d_x7_print (N : Nat)  (s : St) (a0 : Int) (a1 : Int) : Option Rs :=
  bI (d_x7_isStream N  s a0) fun s1 v2 => (if (w32 v2) = 0 then some (s1, (-2)) else bI (d_x7_isEmpty N  s1 a0) fun s3 v4 => (if (w32 v4) = 0 then bV (d_x1_writeStream N  s3 a0) fun s5 => (if (w32 a1) = (-1) then some (s5, (s5 15 1)) else (if (w32 a1) < 0 then some (s5, (-12)) else (if (w32 a1) < (w32 (s5 15 1)) then if 0 ≤ (w32 a1) ∧ (w32 a1) < ((1024 : Nat) : Int) then some (s5, (s5 16 (Int.toNat (w32 a1)))) else none else some (s5, (-12))))) else some (s3, (-3))))
set_option maxHeartbeats 4000000 in
set_option maxRecDepth 100000 in
theorem c_x7_print {sc : xS} {d : Nat} {R : Rs} (N : Nat)  (hd : 7 ≤ d)   (s : St) (a0 : Int) (a1 : Int) : d_x7_print N  s a0 a1 = some R → vT sc d 106 0 [(0, .ref 0), (1, vi a0), (2, vi a1)] [] s (fun r => r = qI R) := by
  obtain ⟨d, rfl⟩ : ∃ d', d = d' + 1 := ⟨d - 1, by omega⟩
  unfold d_x7_print
  refine vLin 1 i106_0 rfl rfl ?_
  refine vCallI 4 [vi a0] [] [(0, vi a0)] i106_1 rfl (xlk1 l106_86) (Or.inr (Or.inl rfl)) m98 rfl rfl (Nat.le_of_ble_eq_true rfl) (Nat.le_of_ble_eq_true rfl) (Nat.le_of_ble_eq_true rfl) rfl rfl rfl (fun R1 => c_x7_isStream N   (by omega) s a0) (fun s1 v2 => ?_)
  refine vZne 10 7 rfl i106_4 rfl rfl ?_ ?_
  · refine vLan 11 i106_10 rfl rfl ?_
    refine vLin 12 i106_11 rfl rfl ?_
    refine vCallI 15 [.ref 0, vi a0] [] [(0, .ref 0), (1, vi a0)] i106_12 rfl (xlk0 l106_108) (Or.inl rfl) m95 rfl rfl (Nat.le_of_ble_eq_true rfl) (Nat.le_of_ble_eq_true rfl) (Nat.le_of_ble_eq_true rfl) (xh0 sh_0 (by decide)) rfl rfl (fun R1 => c_x7_isEmpty N   (by omega) s1 a0) (fun s3 v4 => ?_)
    refine vZeq 21 18 rfl i106_15 rfl rfl ?_ ?_
    · refine vLan 22 i106_21 rfl rfl ?_
      refine vGetC 25 i106_22 f106_19 sh_0 rfl rfl ?_
      refine vLan 26 i106_25 rfl rfl ?_
      refine vGetC 29 i106_26 f106_28 sh_0 rfl rfl ?_
      refine vLin 30 i106_29 rfl rfl ?_
      refine vCallV 33 [.ref 15, .ref 17, vi a0] [] [(0, .ref 15), (1, .ref 17), (2, vi a0)] i106_30 rfl (xlk0 l106_152) (Or.inl rfl) m14 rfl rfl (Nat.le_of_ble_eq_true rfl) (Nat.le_of_ble_eq_true rfl) (Nat.le_of_ble_eq_true rfl) (xh0 sh_15 (by decide)) rfl rfl (fun R1 => c_x1_writeStream N   (by omega) s3 a0) (fun s5 => ?_)
      refine vLin 34 i106_33 rfl rfl ?_
      refine vK 35 i106_34 rfl ?_
      refine vCne 46 38 rfl (show w32 (-1) = (-1) from rfl) i106_35 rfl rfl ?_ ?_
      · refine vLin 47 i106_46 rfl rfl ?_
        refine vZlt 61 50 rfl i106_47 rfl rfl ?_ ?_
        · refine vKb 63 i106_61 (by decide) rfl ?_
          exact vRi i106_63 m106 rfl
        · refine vLin 51 i106_50 rfl rfl ?_
          refine vLan 52 i106_51 rfl rfl ?_
          refine vGetC 55 i106_52 f106_19 sh_0 rfl rfl ?_
          refine vGet 58 i106_55 f106_156 sh_15 rfl rfl ?_
          refine vClt 64 61 rfl rfl i106_58 rfl rfl ?_ ?_
          · refine vLan 65 i106_64 rfl rfl ?_
            refine vGetC 68 i106_65 f106_19 sh_0 rfl rfl ?_
            refine vGetC 71 i106_68 f106_159 sh_15 rfl rfl ?_
            refine vLin 72 i106_71 rfl rfl ?_
            refine vIal 73 rfl i106_72 sh_16 rfl ?_
            exact vRi i106_73 m106 rfl
          · refine vKb 63 i106_61 (by decide) rfl ?_
            exact vRi i106_63 m106 rfl
      · refine vLan 39 i106_38 rfl rfl ?_
        refine vGetC 42 i106_39 f106_19 sh_0 rfl rfl ?_
        refine vGet 45 i106_42 f106_156 sh_15 rfl rfl ?_
        exact vRi i106_45 m106 rfl
    · refine vKb 20 i106_18 (by decide) rfl ?_
      exact vRi i106_20 m106 rfl
  · refine vKb 9 i106_7 (by decide) rfl ?_
    exact vRi i106_9 m106 rfl
theorem f82_47 : xFld xg 82 47 = some (6, 5) := by decide +kernel
theorem f82_187 : xFld xg 82 187 = some (3, 3) := by decide +kernel
theorem i82_0 : xIns xg 82 0 = some (.aload_n 0) := by decide +kernel
theorem i82_1 : xIns xg 82 1 = some (.aload_n 0) := by decide +kernel
theorem i82_2 : xIns xg 82 2 = some (.getfield 47) := by decide +kernel
theorem i82_5 : xIns xg 82 5 = some (.getfield 187) := by decide +kernel
theorem i82_8 : xIns xg 82 8 = some (.putfield 79) := by decide +kernel
theorem p82_79 : xPut xg 82 79 = some (6, 13, .int) := by decide +kernel
theorem i82_11 : xIns xg 82 11 = some (.iload_n 1) := by decide +kernel
theorem i82_12 : xIns xg 82 12 = some (.ireturn) := by decide +kernel
theorem m82 : (xMet xg 82).2.2 = (2, (some .int)) := by decide +kernel
def d_x7_counted (N : Nat)  (s : St) (a0 : Int) : Option Rs :=
  bd (up s 0 13 (s 50 3)) fun s1 => some (s1, a0)
set_option maxHeartbeats 4000000 in
set_option maxRecDepth 100000 in
theorem c_x7_counted {sc : xS} {d : Nat} {R : Rs} (N : Nat)  (hd : 0 ≤ d)   (s : St) (a0 : Int) : d_x7_counted N  s a0 = some R → vT sc d 82 0 [(0, .ref 0), (1, vi a0)] [] s (fun r => r = qI R) := by
  unfold d_x7_counted
  refine vLan 1 i82_0 rfl rfl ?_
  refine vLan 2 i82_1 rfl rfl ?_
  refine vGetC 5 i82_2 f82_47 sh_0 rfl rfl ?_
  refine vGet 8 i82_5 f82_187 sh_50 rfl rfl ?_
  refine vPut 11 i82_8 p82_79 sh_0 rfl rfl (fun s1 => ?_)
  refine vLin 12 i82_11 rfl rfl ?_
  exact vRi i82_12 m82 rfl
theorem i109_0 : xIns xg 109 0 = some (.iload_n 1) := by decide +kernel
theorem i109_1 : xIns xg 109 1 = some (.invokestatic 86) := by decide +kernel
theorem i109_4 : xIns xg 109 4 = some (.ifCond .eq 12) := by decide +kernel
theorem i109_16 : xIns xg 109 16 = some (.bipush (-2)) := by decide +kernel
theorem i109_18 : xIns xg 109 18 = some (.ireturn) := by decide +kernel
theorem m109 : (xMet xg 109).2.2 = (4, (some .int)) := by decide +kernel
theorem i109_7 : xIns xg 109 7 = some (.iload_n 2) := by decide +kernel
theorem i109_8 : xIns xg 109 8 = some (.ifCond .lt 8) := by decide +kernel
theorem i109_11 : xIns xg 109 11 = some (.iload_n 2) := by decide +kernel
theorem i109_12 : xIns xg 109 12 = some (.iload_n 3) := by decide +kernel
theorem i109_13 : xIns xg 109 13 = some (.if_icmp .le 6) := by decide +kernel
theorem i109_19 : xIns xg 109 19 = some (.aload_n 0) := by decide +kernel
theorem i109_20 : xIns xg 109 20 = some (.iload_n 1) := by decide +kernel
theorem i109_21 : xIns xg 109 21 = some (.invokevirtual 108) := by decide +kernel
theorem i109_24 : xIns xg 109 24 = some (.ifCond .eq 8) := by decide +kernel
theorem i109_32 : xIns xg 109 32 = some (.iconst 0) := by decide +kernel
theorem i109_33 : xIns xg 109 33 = some (.ireturn) := by decide +kernel
theorem i109_27 : xIns xg 109 27 = some (.bipush (-3)) := by decide +kernel
theorem i109_29 : xIns xg 109 29 = some (.goto 4) := by decide +kernel
def d_x7_refusedRow (N : Nat)  (s : St) (a0 : Int) (a1 : Int) (a2 : Int) : Option Rs :=
  bI (d_x7_isStream N  s a0) fun s1 v2 => (if (w32 v2) = 0 then some (s1, (-2)) else (if (w32 a1) < 0 then some (s1, (-2)) else (if (w32 a2) < (w32 a1) then some (s1, (-2)) else bI (d_x7_isEmpty N  s1 a0) fun s3 v4 => (if (w32 v4) = 0 then some (s3, 0) else some (s3, (-3))))))
set_option maxHeartbeats 4000000 in
set_option maxRecDepth 100000 in
theorem c_x7_refusedRow {sc : xS} {d : Nat} {R : Rs} (N : Nat)  (hd : 1 ≤ d)   (s : St) (a0 : Int) (a1 : Int) (a2 : Int) : d_x7_refusedRow N  s a0 a1 a2 = some R → vT sc d 109 0 [(0, .ref 0), (1, vi a0), (2, vi a1), (3, vi a2)] [] s (fun r => r = qI R) := by
  obtain ⟨d, rfl⟩ : ∃ d', d = d' + 1 := ⟨d - 1, by omega⟩
  unfold d_x7_refusedRow
  refine vLin 1 i109_0 rfl rfl ?_
  refine vCallI 4 [vi a0] [] [(0, vi a0)] i109_1 rfl (xlk1 l109_86) (Or.inr (Or.inl rfl)) m98 rfl rfl (Nat.le_of_ble_eq_true rfl) (Nat.le_of_ble_eq_true rfl) (Nat.le_of_ble_eq_true rfl) rfl rfl rfl (fun R1 => c_x7_isStream N   (by omega) s a0) (fun s1 v2 => ?_)
  refine vZeq 16 7 rfl i109_4 rfl rfl ?_ ?_
  · refine vKb 18 i109_16 (by decide) rfl ?_
    exact vRi i109_18 m109 rfl
  · refine vLin 8 i109_7 rfl rfl ?_
    refine vZlt 16 11 rfl i109_8 rfl rfl ?_ ?_
    · refine vKb 18 i109_16 (by decide) rfl ?_
      exact vRi i109_18 m109 rfl
    · refine vLin 12 i109_11 rfl rfl ?_
      refine vLin 13 i109_12 rfl rfl ?_
      refine vCle 19 16 rfl rfl i109_13 rfl rfl ?_ ?_
      · refine vLan 20 i109_19 rfl rfl ?_
        refine vLin 21 i109_20 rfl rfl ?_
        refine vCallI 24 [.ref 0, vi a0] [] [(0, .ref 0), (1, vi a0)] i109_21 rfl (xlk0 l109_108) (Or.inl rfl) m95 rfl rfl (Nat.le_of_ble_eq_true rfl) (Nat.le_of_ble_eq_true rfl) (Nat.le_of_ble_eq_true rfl) (xh0 sh_0 (by decide)) rfl rfl (fun R1 => c_x7_isEmpty N   (by omega) s1 a0) (fun s3 v4 => ?_)
        refine vZeq 32 27 rfl i109_24 rfl rfl ?_ ?_
        · refine vK 33 i109_32 rfl ?_
          exact vRi i109_33 m109 rfl
        · refine vKb 29 i109_27 (by decide) rfl ?_
          refine vGo 33 i109_29 rfl ?_
          exact vRi i109_33 m109 rfl
      · refine vKb 18 i109_16 (by decide) rfl ?_
        exact vRi i109_18 m109 rfl
theorem i108_0 : xIns xg 108 0 = some (.aload_n 0) := by decide +kernel
theorem i108_1 : xIns xg 108 1 = some (.iload_n 1) := by decide +kernel
theorem i108_2 : xIns xg 108 2 = some (.iload_n 2) := by decide +kernel
theorem i108_3 : xIns xg 108 3 = some (.bipush 63) := by decide +kernel
theorem i108_5 : xIns xg 108 5 = some (.invokevirtual 196) := by decide +kernel
theorem i108_8 : xIns xg 108 8 = some (.ireturn) := by decide +kernel
theorem m108 : (xMet xg 108).2.2 = (3, (some .int)) := by decide +kernel
def d_x7_refusedPlace (N : Nat)  (s : St) (a0 : Int) (a1 : Int) : Option Rs :=
  bI (d_x7_refusedRow N  s a0 a1 63) fun s1 v2 => some (s1, v2)
set_option maxHeartbeats 4000000 in
set_option maxRecDepth 100000 in
theorem c_x7_refusedPlace {sc : xS} {d : Nat} {R : Rs} (N : Nat)  (hd : 2 ≤ d)   (s : St) (a0 : Int) (a1 : Int) : d_x7_refusedPlace N  s a0 a1 = some R → vT sc d 108 0 [(0, .ref 0), (1, vi a0), (2, vi a1)] [] s (fun r => r = qI R) := by
  obtain ⟨d, rfl⟩ : ∃ d', d = d' + 1 := ⟨d - 1, by omega⟩
  unfold d_x7_refusedPlace
  refine vLan 1 i108_0 rfl rfl ?_
  refine vLin 2 i108_1 rfl rfl ?_
  refine vLin 3 i108_2 rfl rfl ?_
  refine vKb 5 i108_3 (by decide) rfl ?_
  refine vCallI 8 [.ref 0, vi a0, vi a1, vi 63] [] [(0, .ref 0), (1, vi a0), (2, vi a1), (3, vi 63)] i108_5 rfl (xlk0 l108_196) (Or.inl rfl) m109 rfl rfl (Nat.le_of_ble_eq_true rfl) (Nat.le_of_ble_eq_true rfl) (Nat.le_of_ble_eq_true rfl) (xh0 sh_0 (by decide)) rfl rfl (fun R1 => c_x7_refusedRow N   (by omega) s a0 a1 63) (fun s1 v2 => ?_)
  exact vRi i108_8 m108 rfl
theorem f118_47 : xFld xg 118 47 = some (6, 5) := by decide +kernel
theorem f118_35 : xFld xg 118 35 = some (6, 3) := by decide +kernel
theorem f118_76 : xFld xg 118 76 = some (6, 12) := by decide +kernel
theorem i118_0 : xIns xg 118 0 = some (.aload_n 0) := by decide +kernel
theorem i118_1 : xIns xg 118 1 = some (.iload_n 1) := by decide +kernel
theorem i118_2 : xIns xg 118 2 = some (.iload_n 2) := by decide +kernel
theorem i118_3 : xIns xg 118 3 = some (.invokevirtual 162) := by decide +kernel
theorem i118_6 : xIns xg 118 6 = some (.istore_n 3) := by decide +kernel
theorem m118 : (xMet xg 118).2.2 = (4, (some .int)) := by decide +kernel
theorem i118_7 : xIns xg 118 7 = some (.iload_n 3) := by decide +kernel
theorem i118_8 : xIns xg 118 8 = some (.ifCond .eq 5) := by decide +kernel
theorem i118_13 : xIns xg 118 13 = some (.aload_n 0) := by decide +kernel
theorem i118_14 : xIns xg 118 14 = some (.getfield 47) := by decide +kernel
theorem i118_17 : xIns xg 118 17 = some (.aload_n 0) := by decide +kernel
theorem i118_18 : xIns xg 118 18 = some (.getfield 35) := by decide +kernel
theorem i118_21 : xIns xg 118 21 = some (.aload_n 0) := by decide +kernel
theorem i118_22 : xIns xg 118 22 = some (.getfield 76) := by decide +kernel
theorem i118_25 : xIns xg 118 25 = some (.invokevirtual 166) := by decide +kernel
theorem i118_28 : xIns xg 118 28 = some (.aload_n 0) := by decide +kernel
theorem i118_29 : xIns xg 118 29 = some (.aload_n 0) := by decide +kernel
theorem i118_30 : xIns xg 118 30 = some (.getfield 47) := by decide +kernel
theorem i118_33 : xIns xg 118 33 = some (.iload_n 1) := by decide +kernel
theorem i118_34 : xIns xg 118 34 = some (.iload_n 2) := by decide +kernel
theorem i118_35 : xIns xg 118 35 = some (.invokevirtual 170) := by decide +kernel
theorem i118_38 : xIns xg 118 38 = some (.invokevirtual 173) := by decide +kernel
theorem i118_41 : xIns xg 118 41 = some (.ireturn) := by decide +kernel
theorem i118_11 : xIns xg 118 11 = some (.iload_n 3) := by decide +kernel
theorem i118_12 : xIns xg 118 12 = some (.ireturn) := by decide +kernel
def d_x7_there (N : Nat)  (s : St) (a0 : Int) (a1 : Int) : Option Rs :=
  bI (d_x7_refusedPlace N  s a0 a1) fun s1 v2 => (if (w32 v2) = 0 then bV (d_x4_begin N 26 s1 (s1 0 12)) fun s3 => bI (d_x4_isThere N 26 s3 a0 a1) fun s5 v6 => bI (d_x7_counted N  s5 v6) fun s7 v8 => some (s7, v8) else some (s1, v2))
set_option maxHeartbeats 4000000 in
set_option maxRecDepth 100000 in
theorem c_x7_there {sc : xS} {d : Nat} {R : Rs} (N : Nat)  (hd : 442 ≤ d)   (s : St) (a0 : Int) (a1 : Int) : d_x7_there N  s a0 a1 = some R → vT sc d 118 0 [(0, .ref 0), (1, vi a0), (2, vi a1)] [] s (fun r => r = qI R) := by
  obtain ⟨d, rfl⟩ : ∃ d', d = d' + 1 := ⟨d - 1, by omega⟩
  unfold d_x7_there
  refine vLan 1 i118_0 rfl rfl ?_
  refine vLin 2 i118_1 rfl rfl ?_
  refine vLin 3 i118_2 rfl rfl ?_
  refine vCallI 6 [.ref 0, vi a0, vi a1] [] [(0, .ref 0), (1, vi a0), (2, vi a1)] i118_3 rfl (xlk0 l118_162) (Or.inl rfl) m108 rfl rfl (Nat.le_of_ble_eq_true rfl) (Nat.le_of_ble_eq_true rfl) (Nat.le_of_ble_eq_true rfl) (xh0 sh_0 (by decide)) rfl rfl (fun R1 => c_x7_refusedPlace N   (by omega) s a0 a1) (fun s1 v2 => ?_)
  refine vSin0 7 [(3, vi v2), (0, .ref 0), (1, vi a0), (2, vi a1)] i118_6 m118 (by decide) rfl rfl ?_
  refine vLin 8 i118_7 rfl rfl ?_
  refine vZeq 13 11 rfl i118_8 rfl rfl ?_ ?_
  · refine vLan 14 i118_13 rfl rfl ?_
    refine vGetC 17 i118_14 f118_47 sh_0 rfl rfl ?_
    refine vLan 18 i118_17 rfl rfl ?_
    refine vGetC 21 i118_18 f118_35 sh_0 rfl rfl ?_
    refine vLan 22 i118_21 rfl rfl ?_
    refine vGet 25 i118_22 f118_76 sh_0 rfl rfl ?_
    refine vCallV 28 [.ref 50, .ref 26, vi (s1 0 12)] [] [(0, .ref 50), (1, .ref 26), (2, vi (s1 0 12))] i118_25 rfl (xlk0 l118_166) (Or.inl rfl) m42 rfl rfl (Nat.le_of_ble_eq_true rfl) (Nat.le_of_ble_eq_true rfl) (Nat.le_of_ble_eq_true rfl) (xh0 sh_50 (by decide)) rfl rfl (fun R1 => c_x4_begin N 26 isTold_26 (by omega) s1 (s1 0 12)) (fun s3 => ?_)
    refine vLan 29 i118_28 rfl rfl ?_
    refine vLan 30 i118_29 rfl rfl ?_
    refine vGetC 33 i118_30 f118_47 sh_0 rfl rfl ?_
    refine vLin 34 i118_33 rfl rfl ?_
    refine vLin 35 i118_34 rfl rfl ?_
    refine vCallI 38 [.ref 50, vi a0, vi a1] [.ref 0] [(0, .ref 50), (1, vi a0), (2, vi a1)] i118_35 rfl (xlk0 l118_170) (Or.inl rfl) m49 rfl rfl (Nat.le_of_ble_eq_true rfl) (Nat.le_of_ble_eq_true rfl) (Nat.le_of_ble_eq_true rfl) (xh0 sh_50 (by decide)) rfl rfl (fun R1 => c_x4_isThere N 26 isTold_26 (by omega) s3 a0 a1) (fun s5 v6 => ?_)
    refine vCallI 41 [.ref 0, vi v6] [] [(0, .ref 0), (1, vi v6)] i118_38 rfl (xlk0 l118_173) (Or.inl rfl) m82 rfl rfl (Nat.le_of_ble_eq_true rfl) (Nat.le_of_ble_eq_true rfl) (Nat.le_of_ble_eq_true rfl) (xh0 sh_0 (by decide)) rfl rfl (fun R1 => c_x7_counted N   (by omega) s5 v6) (fun s7 v8 => ?_)
    exact vRi i118_41 m118 rfl
  · refine vLin 12 i118_11 rfl rfl ?_
    exact vRi i118_12 m118 rfl
theorem f94_47 : xFld xg 94 47 = some (6, 5) := by decide +kernel
theorem f94_35 : xFld xg 94 35 = some (6, 3) := by decide +kernel
theorem f94_76 : xFld xg 94 76 = some (6, 12) := by decide +kernel
theorem i94_0 : xIns xg 94 0 = some (.aload_n 0) := by decide +kernel
theorem i94_1 : xIns xg 94 1 = some (.iload_n 1) := by decide +kernel
theorem i94_2 : xIns xg 94 2 = some (.iload_n 2) := by decide +kernel
theorem i94_3 : xIns xg 94 3 = some (.invokevirtual 162) := by decide +kernel
theorem i94_6 : xIns xg 94 6 = some (.istore_n 3) := by decide +kernel
theorem m94 : (xMet xg 94).2.2 = (4, (some .int)) := by decide +kernel
theorem i94_7 : xIns xg 94 7 = some (.iload_n 3) := by decide +kernel
theorem i94_8 : xIns xg 94 8 = some (.ifCond .eq 5) := by decide +kernel
theorem i94_13 : xIns xg 94 13 = some (.aload_n 0) := by decide +kernel
theorem i94_14 : xIns xg 94 14 = some (.getfield 47) := by decide +kernel
theorem i94_17 : xIns xg 94 17 = some (.aload_n 0) := by decide +kernel
theorem i94_18 : xIns xg 94 18 = some (.getfield 35) := by decide +kernel
theorem i94_21 : xIns xg 94 21 = some (.aload_n 0) := by decide +kernel
theorem i94_22 : xIns xg 94 22 = some (.getfield 76) := by decide +kernel
theorem i94_25 : xIns xg 94 25 = some (.invokevirtual 166) := by decide +kernel
theorem i94_28 : xIns xg 94 28 = some (.aload_n 0) := by decide +kernel
theorem i94_29 : xIns xg 94 29 = some (.aload_n 0) := by decide +kernel
theorem i94_30 : xIns xg 94 30 = some (.getfield 47) := by decide +kernel
theorem i94_33 : xIns xg 94 33 = some (.iload_n 1) := by decide +kernel
theorem i94_34 : xIns xg 94 34 = some (.iload_n 2) := by decide +kernel
theorem i94_35 : xIns xg 94 35 = some (.invokevirtual 176) := by decide +kernel
theorem i94_38 : xIns xg 94 38 = some (.invokevirtual 173) := by decide +kernel
theorem i94_41 : xIns xg 94 41 = some (.ireturn) := by decide +kernel
theorem i94_11 : xIns xg 94 11 = some (.iload_n 3) := by decide +kernel
theorem i94_12 : xIns xg 94 12 = some (.ireturn) := by decide +kernel
def d_x7_is (N : Nat)  (s : St) (a0 : Int) (a1 : Int) : Option Rs :=
  bI (d_x7_refusedPlace N  s a0 a1) fun s1 v2 => (if (w32 v2) = 0 then bV (d_x4_begin N 26 s1 (s1 0 12)) fun s3 => bI (d_x4_outcome N 26 s3 a0 a1) fun s5 v6 => bI (d_x7_counted N  s5 v6) fun s7 v8 => some (s7, v8) else some (s1, v2))
set_option maxHeartbeats 4000000 in
set_option maxRecDepth 100000 in
theorem c_x7_is {sc : xS} {d : Nat} {R : Rs} (N : Nat)  (hd : 442 ≤ d)   (s : St) (a0 : Int) (a1 : Int) : d_x7_is N  s a0 a1 = some R → vT sc d 94 0 [(0, .ref 0), (1, vi a0), (2, vi a1)] [] s (fun r => r = qI R) := by
  obtain ⟨d, rfl⟩ : ∃ d', d = d' + 1 := ⟨d - 1, by omega⟩
  unfold d_x7_is
  refine vLan 1 i94_0 rfl rfl ?_
  refine vLin 2 i94_1 rfl rfl ?_
  refine vLin 3 i94_2 rfl rfl ?_
  refine vCallI 6 [.ref 0, vi a0, vi a1] [] [(0, .ref 0), (1, vi a0), (2, vi a1)] i94_3 rfl (xlk0 l94_162) (Or.inl rfl) m108 rfl rfl (Nat.le_of_ble_eq_true rfl) (Nat.le_of_ble_eq_true rfl) (Nat.le_of_ble_eq_true rfl) (xh0 sh_0 (by decide)) rfl rfl (fun R1 => c_x7_refusedPlace N   (by omega) s a0 a1) (fun s1 v2 => ?_)
  refine vSin0 7 [(3, vi v2), (0, .ref 0), (1, vi a0), (2, vi a1)] i94_6 m94 (by decide) rfl rfl ?_
  refine vLin 8 i94_7 rfl rfl ?_
  refine vZeq 13 11 rfl i94_8 rfl rfl ?_ ?_
  · refine vLan 14 i94_13 rfl rfl ?_
    refine vGetC 17 i94_14 f94_47 sh_0 rfl rfl ?_
    refine vLan 18 i94_17 rfl rfl ?_
    refine vGetC 21 i94_18 f94_35 sh_0 rfl rfl ?_
    refine vLan 22 i94_21 rfl rfl ?_
    refine vGet 25 i94_22 f94_76 sh_0 rfl rfl ?_
    refine vCallV 28 [.ref 50, .ref 26, vi (s1 0 12)] [] [(0, .ref 50), (1, .ref 26), (2, vi (s1 0 12))] i94_25 rfl (xlk0 l94_166) (Or.inl rfl) m42 rfl rfl (Nat.le_of_ble_eq_true rfl) (Nat.le_of_ble_eq_true rfl) (Nat.le_of_ble_eq_true rfl) (xh0 sh_50 (by decide)) rfl rfl (fun R1 => c_x4_begin N 26 isTold_26 (by omega) s1 (s1 0 12)) (fun s3 => ?_)
    refine vLan 29 i94_28 rfl rfl ?_
    refine vLan 30 i94_29 rfl rfl ?_
    refine vGetC 33 i94_30 f94_47 sh_0 rfl rfl ?_
    refine vLin 34 i94_33 rfl rfl ?_
    refine vLin 35 i94_34 rfl rfl ?_
    refine vCallI 38 [.ref 50, vi a0, vi a1] [.ref 0] [(0, .ref 50), (1, vi a0), (2, vi a1)] i94_35 rfl (xlk0 l94_176) (Or.inl rfl) m51 rfl rfl (Nat.le_of_ble_eq_true rfl) (Nat.le_of_ble_eq_true rfl) (Nat.le_of_ble_eq_true rfl) (xh0 sh_50 (by decide)) rfl rfl (fun R1 => c_x4_outcome N 26 isTold_26 (by omega) s3 a0 a1) (fun s5 v6 => ?_)
    refine vCallI 41 [.ref 0, vi v6] [] [(0, .ref 0), (1, vi v6)] i94_38 rfl (xlk0 l94_173) (Or.inl rfl) m82 rfl rfl (Nat.le_of_ble_eq_true rfl) (Nat.le_of_ble_eq_true rfl) (Nat.le_of_ble_eq_true rfl) (xh0 sh_0 (by decide)) rfl rfl (fun R1 => c_x7_counted N   (by omega) s5 v6) (fun s7 v8 => ?_)
    exact vRi i94_41 m94 rfl
  · refine vLin 12 i94_11 rfl rfl ?_
    exact vRi i94_12 m94 rfl
theorem f91_47 : xFld xg 91 47 = some (6, 5) := by decide +kernel
theorem f91_35 : xFld xg 91 35 = some (6, 3) := by decide +kernel
theorem f91_76 : xFld xg 91 76 = some (6, 12) := by decide +kernel
theorem f91_179 : xFld xg 91 179 = some (3, 4) := by decide +kernel
theorem i91_0 : xIns xg 91 0 = some (.aload_n 0) := by decide +kernel
theorem i91_1 : xIns xg 91 1 = some (.iload_n 1) := by decide +kernel
theorem i91_2 : xIns xg 91 2 = some (.iload_n 2) := by decide +kernel
theorem i91_3 : xIns xg 91 3 = some (.invokevirtual 162) := by decide +kernel
theorem i91_6 : xIns xg 91 6 = some (.ifCond .eq 7) := by decide +kernel
theorem i91_13 : xIns xg 91 13 = some (.aload_n 0) := by decide +kernel
theorem i91_14 : xIns xg 91 14 = some (.getfield 47) := by decide +kernel
theorem i91_17 : xIns xg 91 17 = some (.aload_n 0) := by decide +kernel
theorem i91_18 : xIns xg 91 18 = some (.getfield 35) := by decide +kernel
theorem i91_21 : xIns xg 91 21 = some (.aload_n 0) := by decide +kernel
theorem i91_22 : xIns xg 91 22 = some (.getfield 76) := by decide +kernel
theorem i91_25 : xIns xg 91 25 = some (.invokevirtual 166) := by decide +kernel
theorem i91_28 : xIns xg 91 28 = some (.aload_n 0) := by decide +kernel
theorem i91_29 : xIns xg 91 29 = some (.aload_n 0) := by decide +kernel
theorem i91_30 : xIns xg 91 30 = some (.getfield 47) := by decide +kernel
theorem i91_33 : xIns xg 91 33 = some (.iload_n 1) := by decide +kernel
theorem i91_34 : xIns xg 91 34 = some (.iload_n 2) := by decide +kernel
theorem i91_35 : xIns xg 91 35 = some (.invokevirtual 176) := by decide +kernel
theorem i91_38 : xIns xg 91 38 = some (.invokevirtual 173) := by decide +kernel
theorem i91_41 : xIns xg 91 41 = some (.iconst 1) := by decide +kernel
theorem i91_42 : xIns xg 91 42 = some (.if_icmp .ne 13) := by decide +kernel
theorem i91_55 : xIns xg 91 55 = some (.ldc2_w 133) := by decide +kernel
theorem c91_133 : xCon xg 91 133 = some (vl (-4611686018427387904)) := by decide +kernel
theorem i91_58 : xIns xg 91 58 = some (.lreturn) := by decide +kernel
theorem m91 : (xMet xg 91).2.2 = (3, (some .long)) := by decide +kernel
theorem i91_45 : xIns xg 91 45 = some (.aload_n 0) := by decide +kernel
theorem i91_46 : xIns xg 91 46 = some (.getfield 47) := by decide +kernel
theorem i91_49 : xIns xg 91 49 = some (.getfield 179) := by decide +kernel
theorem i91_52 : xIns xg 91 52 = some (.goto 6) := by decide +kernel
theorem i91_9 : xIns xg 91 9 = some (.ldc2_w 133) := by decide +kernel
theorem i91_12 : xIns xg 91 12 = some (.lreturn) := by decide +kernel
def d_x7_head (N : Nat)  (s : St) (a0 : Int) (a1 : Int) : Option Rs :=
  bI (d_x7_refusedPlace N  s a0 a1) fun s1 v2 => (if (w32 v2) = 0 then bV (d_x4_begin N 26 s1 (s1 0 12)) fun s3 => bI (d_x4_outcome N 26 s3 a0 a1) fun s5 v6 => bI (d_x7_counted N  s5 v6) fun s7 v8 => (if (w32 v8) = 1 then some (s7, (s7 50 4)) else some (s7, (-4611686018427387904))) else some (s1, (-4611686018427387904)))
set_option maxHeartbeats 4000000 in
set_option maxRecDepth 100000 in
theorem c_x7_head {sc : xS} {d : Nat} {R : Rs} (N : Nat)  (hd : 442 ≤ d)   (s : St) (a0 : Int) (a1 : Int) : d_x7_head N  s a0 a1 = some R → vT sc d 91 0 [(0, .ref 0), (1, vi a0), (2, vi a1)] [] s (fun r => r = qL R) := by
  obtain ⟨d, rfl⟩ : ∃ d', d = d' + 1 := ⟨d - 1, by omega⟩
  unfold d_x7_head
  refine vLan 1 i91_0 rfl rfl ?_
  refine vLin 2 i91_1 rfl rfl ?_
  refine vLin 3 i91_2 rfl rfl ?_
  refine vCallI 6 [.ref 0, vi a0, vi a1] [] [(0, .ref 0), (1, vi a0), (2, vi a1)] i91_3 rfl (xlk0 l91_162) (Or.inl rfl) m108 rfl rfl (Nat.le_of_ble_eq_true rfl) (Nat.le_of_ble_eq_true rfl) (Nat.le_of_ble_eq_true rfl) (xh0 sh_0 (by decide)) rfl rfl (fun R1 => c_x7_refusedPlace N   (by omega) s a0 a1) (fun s1 v2 => ?_)
  refine vZeq 13 9 rfl i91_6 rfl rfl ?_ ?_
  · refine vLan 14 i91_13 rfl rfl ?_
    refine vGetC 17 i91_14 f91_47 sh_0 rfl rfl ?_
    refine vLan 18 i91_17 rfl rfl ?_
    refine vGetC 21 i91_18 f91_35 sh_0 rfl rfl ?_
    refine vLan 22 i91_21 rfl rfl ?_
    refine vGet 25 i91_22 f91_76 sh_0 rfl rfl ?_
    refine vCallV 28 [.ref 50, .ref 26, vi (s1 0 12)] [] [(0, .ref 50), (1, .ref 26), (2, vi (s1 0 12))] i91_25 rfl (xlk0 l91_166) (Or.inl rfl) m42 rfl rfl (Nat.le_of_ble_eq_true rfl) (Nat.le_of_ble_eq_true rfl) (Nat.le_of_ble_eq_true rfl) (xh0 sh_50 (by decide)) rfl rfl (fun R1 => c_x4_begin N 26 isTold_26 (by omega) s1 (s1 0 12)) (fun s3 => ?_)
    refine vLan 29 i91_28 rfl rfl ?_
    refine vLan 30 i91_29 rfl rfl ?_
    refine vGetC 33 i91_30 f91_47 sh_0 rfl rfl ?_
    refine vLin 34 i91_33 rfl rfl ?_
    refine vLin 35 i91_34 rfl rfl ?_
    refine vCallI 38 [.ref 50, vi a0, vi a1] [.ref 0] [(0, .ref 50), (1, vi a0), (2, vi a1)] i91_35 rfl (xlk0 l91_176) (Or.inl rfl) m51 rfl rfl (Nat.le_of_ble_eq_true rfl) (Nat.le_of_ble_eq_true rfl) (Nat.le_of_ble_eq_true rfl) (xh0 sh_50 (by decide)) rfl rfl (fun R1 => c_x4_outcome N 26 isTold_26 (by omega) s3 a0 a1) (fun s5 v6 => ?_)
    refine vCallI 41 [.ref 0, vi v6] [] [(0, .ref 0), (1, vi v6)] i91_38 rfl (xlk0 l91_173) (Or.inl rfl) m82 rfl rfl (Nat.le_of_ble_eq_true rfl) (Nat.le_of_ble_eq_true rfl) (Nat.le_of_ble_eq_true rfl) (xh0 sh_0 (by decide)) rfl rfl (fun R1 => c_x7_counted N   (by omega) s5 v6) (fun s7 v8 => ?_)
    refine vK 42 i91_41 rfl ?_
    refine vCne 55 45 rfl (show w32 1 = 1 from rfl) i91_42 rfl rfl ?_ ?_
    · refine vKd 58 i91_55 c91_133 rfl ?_
      exact vRl i91_58 m91
    · refine vLan 46 i91_45 rfl rfl ?_
      refine vGetC 49 i91_46 f91_47 sh_0 rfl rfl ?_
      refine vGetL 52 i91_49 f91_179 sh_50 rfl rfl ?_
      refine vGo 58 i91_52 rfl ?_
      exact vRl i91_58 m91
  · refine vKd 12 i91_9 c91_133 rfl ?_
    exact vRl i91_12 m91
theorem f103_39 : xFld xg 103 39 = some (6, 4) := by decide +kernel
theorem f103_35 : xFld xg 103 35 = some (6, 3) := by decide +kernel
theorem f103_47 : xFld xg 103 47 = some (6, 5) := by decide +kernel
theorem f103_187 : xFld xg 103 187 = some (3, 3) := by decide +kernel
theorem i103_0 : xIns xg 103 0 = some (.aload_n 0) := by decide +kernel
theorem i103_1 : xIns xg 103 1 = some (.iload_n 1) := by decide +kernel
theorem i103_2 : xIns xg 103 2 = some (.iload_n 2) := by decide +kernel
theorem i103_3 : xIns xg 103 3 = some (.invokevirtual 162) := by decide +kernel
theorem i103_6 : xIns xg 103 6 = some (.istore_n 3) := by decide +kernel
theorem m103 : (xMet xg 103).2.2 = (4, (some .int)) := by decide +kernel
theorem i103_7 : xIns xg 103 7 = some (.iload_n 3) := by decide +kernel
theorem i103_8 : xIns xg 103 8 = some (.ifCond .eq 5) := by decide +kernel
theorem i103_13 : xIns xg 103 13 = some (.aload_n 0) := by decide +kernel
theorem i103_14 : xIns xg 103 14 = some (.getfield 39) := by decide +kernel
theorem i103_17 : xIns xg 103 17 = some (.aload_n 0) := by decide +kernel
theorem i103_18 : xIns xg 103 18 = some (.getfield 35) := by decide +kernel
theorem i103_21 : xIns xg 103 21 = some (.invokevirtual 183) := by decide +kernel
theorem i103_24 : xIns xg 103 24 = some (.aload_n 0) := by decide +kernel
theorem i103_25 : xIns xg 103 25 = some (.getfield 47) := by decide +kernel
theorem i103_28 : xIns xg 103 28 = some (.aload_n 0) := by decide +kernel
theorem i103_29 : xIns xg 103 29 = some (.getfield 39) := by decide +kernel
theorem i103_32 : xIns xg 103 32 = some (.bipush 99) := by decide +kernel
theorem i103_34 : xIns xg 103 34 = some (.invokevirtual 166) := by decide +kernel
theorem i103_37 : xIns xg 103 37 = some (.aload_n 0) := by decide +kernel
theorem i103_38 : xIns xg 103 38 = some (.getfield 47) := by decide +kernel
theorem i103_41 : xIns xg 103 41 = some (.iload_n 1) := by decide +kernel
theorem i103_42 : xIns xg 103 42 = some (.iload_n 2) := by decide +kernel
theorem i103_43 : xIns xg 103 43 = some (.invokevirtual 176) := by decide +kernel
theorem i103_46 : xIns xg 103 46 = some (.bipush (-6)) := by decide +kernel
theorem i103_48 : xIns xg 103 48 = some (.if_icmp .ne 8) := by decide +kernel
theorem i103_56 : xIns xg 103 56 = some (.aload_n 0) := by decide +kernel
theorem i103_57 : xIns xg 103 57 = some (.getfield 47) := by decide +kernel
theorem i103_60 : xIns xg 103 60 = some (.getfield 187) := by decide +kernel
theorem i103_63 : xIns xg 103 63 = some (.ireturn) := by decide +kernel
theorem i103_51 : xIns xg 103 51 = some (.bipush (-6)) := by decide +kernel
theorem i103_53 : xIns xg 103 53 = some (.goto 10) := by decide +kernel
theorem i103_11 : xIns xg 103 11 = some (.iload_n 3) := by decide +kernel
theorem i103_12 : xIns xg 103 12 = some (.ireturn) := by decide +kernel
def d_x7_need (N : Nat)  (s : St) (a0 : Int) (a1 : Int) : Option Rs :=
  bI (d_x7_refusedPlace N  s a0 a1) fun s1 v2 => (if (w32 v2) = 0 then bV (d_x6_takeAll N 38 26 s1 ) fun s3 => bV (d_x4_begin N 38 s3 99) fun s5 => bI (d_x4_outcome N 38 s5 a0 a1) fun s7 v8 => (if (w32 v8) = (-6) then some (s7, (-6)) else some (s7, (s7 50 3))) else some (s1, v2))
set_option maxHeartbeats 4000000 in
set_option maxRecDepth 100000 in
theorem c_x7_need {sc : xS} {d : Nat} {R : Rs} (N : Nat)  (hd : 442 ≤ d)   (s : St) (a0 : Int) (a1 : Int) : d_x7_need N  s a0 a1 = some R → vT sc d 103 0 [(0, .ref 0), (1, vi a0), (2, vi a1)] [] s (fun r => r = qI R) := by
  obtain ⟨d, rfl⟩ : ∃ d', d = d' + 1 := ⟨d - 1, by omega⟩
  unfold d_x7_need
  refine vLan 1 i103_0 rfl rfl ?_
  refine vLin 2 i103_1 rfl rfl ?_
  refine vLin 3 i103_2 rfl rfl ?_
  refine vCallI 6 [.ref 0, vi a0, vi a1] [] [(0, .ref 0), (1, vi a0), (2, vi a1)] i103_3 rfl (xlk0 l103_162) (Or.inl rfl) m108 rfl rfl (Nat.le_of_ble_eq_true rfl) (Nat.le_of_ble_eq_true rfl) (Nat.le_of_ble_eq_true rfl) (xh0 sh_0 (by decide)) rfl rfl (fun R1 => c_x7_refusedPlace N   (by omega) s a0 a1) (fun s1 v2 => ?_)
  refine vSin0 7 [(3, vi v2), (0, .ref 0), (1, vi a0), (2, vi a1)] i103_6 m103 (by decide) rfl rfl ?_
  refine vLin 8 i103_7 rfl rfl ?_
  refine vZeq 13 11 rfl i103_8 rfl rfl ?_ ?_
  · refine vLan 14 i103_13 rfl rfl ?_
    refine vGetC 17 i103_14 f103_39 sh_0 rfl rfl ?_
    refine vLan 18 i103_17 rfl rfl ?_
    refine vGetC 21 i103_18 f103_35 sh_0 rfl rfl ?_
    refine vCallV 24 [.ref 38, .ref 26] [] [(0, .ref 38), (1, .ref 26)] i103_21 rfl (xlk0 l103_183) (Or.inl rfl) m75 rfl rfl (Nat.le_of_ble_eq_true rfl) (Nat.le_of_ble_eq_true rfl) (Nat.le_of_ble_eq_true rfl) (xh0 sh_38 (by decide)) rfl rfl (fun R1 => c_x6_takeAll N 38 26 isTold_38 isTold_26 (by omega) s1 ) (fun s3 => ?_)
    refine vLan 25 i103_24 rfl rfl ?_
    refine vGetC 28 i103_25 f103_47 sh_0 rfl rfl ?_
    refine vLan 29 i103_28 rfl rfl ?_
    refine vGetC 32 i103_29 f103_39 sh_0 rfl rfl ?_
    refine vKb 34 i103_32 (by decide) rfl ?_
    refine vCallV 37 [.ref 50, .ref 38, vi 99] [] [(0, .ref 50), (1, .ref 38), (2, vi 99)] i103_34 rfl (xlk0 l103_166) (Or.inl rfl) m42 rfl rfl (Nat.le_of_ble_eq_true rfl) (Nat.le_of_ble_eq_true rfl) (Nat.le_of_ble_eq_true rfl) (xh0 sh_50 (by decide)) rfl rfl (fun R1 => c_x4_begin N 38 isTold_38 (by omega) s3 99) (fun s5 => ?_)
    refine vLan 38 i103_37 rfl rfl ?_
    refine vGetC 41 i103_38 f103_47 sh_0 rfl rfl ?_
    refine vLin 42 i103_41 rfl rfl ?_
    refine vLin 43 i103_42 rfl rfl ?_
    refine vCallI 46 [.ref 50, vi a0, vi a1] [] [(0, .ref 50), (1, vi a0), (2, vi a1)] i103_43 rfl (xlk0 l103_176) (Or.inl rfl) m51 rfl rfl (Nat.le_of_ble_eq_true rfl) (Nat.le_of_ble_eq_true rfl) (Nat.le_of_ble_eq_true rfl) (xh0 sh_50 (by decide)) rfl rfl (fun R1 => c_x4_outcome N 38 isTold_38 (by omega) s5 a0 a1) (fun s7 v8 => ?_)
    refine vKb 48 i103_46 (by decide) rfl ?_
    refine vCne 56 51 rfl (show w32 (-6) = (-6) from rfl) i103_48 rfl rfl ?_ ?_
    · refine vLan 57 i103_56 rfl rfl ?_
      refine vGetC 60 i103_57 f103_47 sh_0 rfl rfl ?_
      refine vGet 63 i103_60 f103_187 sh_50 rfl rfl ?_
      exact vRi i103_63 m103 rfl
    · refine vKb 53 i103_51 (by decide) rfl ?_
      refine vGo 63 i103_53 rfl ?_
      exact vRi i103_63 m103 rfl
  · refine vLin 12 i103_11 rfl rfl ?_
    exact vRi i103_12 m103 rfl
theorem f102_76 : xFld xg 102 76 = some (6, 12) := by decide +kernel
theorem i102_0 : xIns xg 102 0 = some (.iload_n 1) := by decide +kernel
theorem i102_1 : xIns xg 102 1 = some (.ifCond .lt 9) := by decide +kernel
theorem i102_10 : xIns xg 102 10 = some (.bipush (-2)) := by decide +kernel
theorem i102_12 : xIns xg 102 12 = some (.ireturn) := by decide +kernel
theorem m102 : (xMet xg 102).2.2 = (3, (some .int)) := by decide +kernel
theorem i102_4 : xIns xg 102 4 = some (.iload_n 1) := by decide +kernel
theorem i102_5 : xIns xg 102 5 = some (.bipush 99) := by decide +kernel
theorem i102_7 : xIns xg 102 7 = some (.if_icmp .le 6) := by decide +kernel
theorem i102_13 : xIns xg 102 13 = some (.aload_n 0) := by decide +kernel
theorem i102_14 : xIns xg 102 14 = some (.getfield 76) := by decide +kernel
theorem i102_17 : xIns xg 102 17 = some (.istore_n 2) := by decide +kernel
theorem i102_18 : xIns xg 102 18 = some (.aload_n 0) := by decide +kernel
theorem i102_19 : xIns xg 102 19 = some (.iload_n 1) := by decide +kernel
theorem i102_20 : xIns xg 102 20 = some (.putfield 76) := by decide +kernel
theorem p102_76 : xPut xg 102 76 = some (6, 12, .int) := by decide +kernel
theorem i102_23 : xIns xg 102 23 = some (.iload_n 2) := by decide +kernel
theorem i102_24 : xIns xg 102 24 = some (.ireturn) := by decide +kernel
def d_x7_limit (N : Nat)  (s : St) (a0 : Int) : Option Rs :=
  (if (w32 a0) < 0 then some (s, (-2)) else (if 99 < (w32 a0) then some (s, (-2)) else bd (s 0 12) fun v1 => bd (up s 0 12 a0) fun s2 => some (s2, v1)))
set_option maxHeartbeats 4000000 in
set_option maxRecDepth 100000 in
theorem c_x7_limit {sc : xS} {d : Nat} {R : Rs} (N : Nat)  (hd : 0 ≤ d)   (s : St) (a0 : Int) : d_x7_limit N  s a0 = some R → vT sc d 102 0 [(0, .ref 0), (1, vi a0)] [] s (fun r => r = qI R) := by
  unfold d_x7_limit
  refine vLin 1 i102_0 rfl rfl ?_
  refine vZlt 10 4 rfl i102_1 rfl rfl ?_ ?_
  · refine vKb 12 i102_10 (by decide) rfl ?_
    exact vRi i102_12 m102 rfl
  · refine vLin 5 i102_4 rfl rfl ?_
    refine vKb 7 i102_5 (by decide) rfl ?_
    refine vCle 13 10 rfl (show w32 99 = 99 from rfl) i102_7 rfl rfl ?_ ?_
    · refine vLan 14 i102_13 rfl rfl ?_
      refine vGet 17 i102_14 f102_76 sh_0 rfl rfl ?_
      refine vSin 18 (fun v1 => [(2, vi v1), (0, .ref 0), (1, vi a0)]) i102_17 m102 (by decide) (fun v1 => (rfl : xst1 [(0, .ref 0), (1, vi a0)] 2 (vi v1) = [(2, vi v1), (0, .ref 0), (1, vi a0)])) rfl (fun v1 => ?_)
      refine vLan 19 i102_18 rfl rfl ?_
      refine vLin 20 i102_19 rfl rfl ?_
      refine vPut 23 i102_20 p102_76 sh_0 rfl rfl (fun s2 => ?_)
      refine vLin 24 i102_23 rfl rfl ?_
      exact vRi i102_24 m102 rfl
    · refine vKb 12 i102_10 (by decide) rfl ?_
      exact vRi i102_12 m102 rfl
theorem f89_35 : xFld xg 89 35 = some (6, 3) := by decide +kernel
theorem i89_0 : xIns xg 89 0 = some (.aload_n 0) := by decide +kernel
theorem i89_1 : xIns xg 89 1 = some (.getfield 35) := by decide +kernel
theorem i89_4 : xIns xg 89 4 = some (.invokevirtual 190) := by decide +kernel
theorem i89_7 : xIns xg 89 7 = some (.aload_n 0) := by decide +kernel
theorem i89_8 : xIns xg 89 8 = some (.getfield 35) := by decide +kernel
theorem i89_11 : xIns xg 89 11 = some (.invokevirtual 193) := by decide +kernel
theorem i89_14 : xIns xg 89 14 = some (.iadd) := by decide +kernel
theorem i89_15 : xIns xg 89 15 = some (.istore_n 1) := by decide +kernel
theorem m89 : (xMet xg 89).2.2 = (2, (some .int)) := by decide +kernel
theorem i89_16 : xIns xg 89 16 = some (.aload_n 0) := by decide +kernel
theorem i89_17 : xIns xg 89 17 = some (.getfield 35) := by decide +kernel
theorem i89_20 : xIns xg 89 20 = some (.invokevirtual 101) := by decide +kernel
theorem i89_23 : xIns xg 89 23 = some (.iload_n 1) := by decide +kernel
theorem i89_24 : xIns xg 89 24 = some (.ireturn) := by decide +kernel
def d_x7_forget (N : Nat)  (s : St)  : Option Rs :=
  bI (d_x6_allPlaces N 26 s ) fun s1 v2 => bI (d_x6_allHeads N 26 s1 ) fun s3 v4 => bd (v2 + v4) fun v5 => bV (d_x6_untell N 26 s3 ) fun s6 => some (s6, v5)
set_option maxHeartbeats 4000000 in
set_option maxRecDepth 100000 in
theorem c_x7_forget {sc : xS} {d : Nat} {R : Rs} (N : Nat)  (hd : 2 ≤ d)   (s : St)  : d_x7_forget N  s  = some R → vT sc d 89 0 [(0, .ref 0)] [] s (fun r => r = qI R) := by
  obtain ⟨d, rfl⟩ : ∃ d', d = d' + 1 := ⟨d - 1, by omega⟩
  unfold d_x7_forget
  refine vLan 1 i89_0 rfl rfl ?_
  refine vGetC 4 i89_1 f89_35 sh_0 rfl rfl ?_
  refine vCallI 7 [.ref 26] [] [(0, .ref 26)] i89_4 rfl (xlk0 l89_190) (Or.inl rfl) m72 rfl rfl (Nat.le_of_ble_eq_true rfl) (Nat.le_of_ble_eq_true rfl) (Nat.le_of_ble_eq_true rfl) (xh0 sh_26 (by decide)) rfl rfl (fun R1 => c_x6_allPlaces N 26 isTold_26 (by omega) s ) (fun s1 v2 => ?_)
  refine vLan 8 i89_7 rfl rfl ?_
  refine vGetC 11 i89_8 f89_35 sh_0 rfl rfl ?_
  refine vCallI 14 [.ref 26] [vi v2] [(0, .ref 26)] i89_11 rfl (xlk0 l89_193) (Or.inl rfl) m71 rfl rfl (Nat.le_of_ble_eq_true rfl) (Nat.le_of_ble_eq_true rfl) (Nat.le_of_ble_eq_true rfl) (xh0 sh_26 (by decide)) rfl rfl (fun R1 => c_x6_allHeads N 26 isTold_26 (by omega) s1 ) (fun s3 v4 => ?_)
  refine vIadd 15 i89_14 rfl ?_
  refine vSin 16 (fun v5 => [(1, vi v5), (0, .ref 0)]) i89_15 m89 (by decide) (fun v5 => (rfl : xst1 [(0, .ref 0)] 1 (vi v5) = [(1, vi v5), (0, .ref 0)])) rfl (fun v5 => ?_)
  refine vLan 17 i89_16 rfl rfl ?_
  refine vGetC 20 i89_17 f89_35 sh_0 rfl rfl ?_
  refine vCallV 23 [.ref 26] [] [(0, .ref 26)] i89_20 rfl (xlk0 l89_101) (Or.inl rfl) m77 rfl rfl (Nat.le_of_ble_eq_true rfl) (Nat.le_of_ble_eq_true rfl) (Nat.le_of_ble_eq_true rfl) (xh0 sh_26 (by decide)) rfl rfl (fun R1 => c_x6_untell N 26 isTold_26 (by omega) s3 ) (fun s6 => ?_)
  refine vLin 24 i89_23 rfl rfl ?_
  exact vRi i89_24 m89 rfl
theorem f112_47 : xFld xg 112 47 = some (6, 5) := by decide +kernel
theorem f112_35 : xFld xg 112 35 = some (6, 3) := by decide +kernel
theorem f112_76 : xFld xg 112 76 = some (6, 12) := by decide +kernel
theorem f112_179 : xFld xg 112 179 = some (3, 4) := by decide +kernel
theorem i112_0 : xIns xg 112 0 = some (.aload_n 0) := by decide +kernel
theorem i112_1 : xIns xg 112 1 = some (.iload_n 1) := by decide +kernel
theorem i112_2 : xIns xg 112 2 = some (.iload_n 2) := by decide +kernel
theorem i112_3 : xIns xg 112 3 = some (.bipush 64) := by decide +kernel
theorem i112_5 : xIns xg 112 5 = some (.invokevirtual 196) := by decide +kernel
theorem i112_8 : xIns xg 112 8 = some (.ifCond .eq 7) := by decide +kernel
theorem i112_15 : xIns xg 112 15 = some (.aload_n 0) := by decide +kernel
theorem i112_16 : xIns xg 112 16 = some (.getfield 47) := by decide +kernel
theorem i112_19 : xIns xg 112 19 = some (.aload_n 0) := by decide +kernel
theorem i112_20 : xIns xg 112 20 = some (.getfield 35) := by decide +kernel
theorem i112_23 : xIns xg 112 23 = some (.aload_n 0) := by decide +kernel
theorem i112_24 : xIns xg 112 24 = some (.getfield 76) := by decide +kernel
theorem i112_27 : xIns xg 112 27 = some (.invokevirtual 166) := by decide +kernel
theorem i112_30 : xIns xg 112 30 = some (.aload_n 0) := by decide +kernel
theorem i112_31 : xIns xg 112 31 = some (.aload_n 0) := by decide +kernel
theorem i112_32 : xIns xg 112 32 = some (.getfield 47) := by decide +kernel
theorem i112_35 : xIns xg 112 35 = some (.iload_n 1) := by decide +kernel
theorem i112_36 : xIns xg 112 36 = some (.iload_n 2) := by decide +kernel
theorem i112_37 : xIns xg 112 37 = some (.invokevirtual 200) := by decide +kernel
theorem i112_40 : xIns xg 112 40 = some (.invokevirtual 173) := by decide +kernel
theorem i112_43 : xIns xg 112 43 = some (.istore_n 3) := by decide +kernel
theorem m112 : (xMet xg 112).2.2 = (4, (some .long)) := by decide +kernel
theorem i112_44 : xIns xg 112 44 = some (.iload_n 3) := by decide +kernel
theorem i112_45 : xIns xg 112 45 = some (.bipush (-6)) := by decide +kernel
theorem i112_47 : xIns xg 112 47 = some (.if_icmp .ne 7) := by decide +kernel
theorem i112_54 : xIns xg 112 54 = some (.iload_n 3) := by decide +kernel
theorem i112_55 : xIns xg 112 55 = some (.iconst 1) := by decide +kernel
theorem i112_56 : xIns xg 112 56 = some (.if_icmp .ne 13) := by decide +kernel
theorem i112_69 : xIns xg 112 69 = some (.ldc2_w 133) := by decide +kernel
theorem c112_133 : xCon xg 112 133 = some (vl (-4611686018427387904)) := by decide +kernel
theorem i112_72 : xIns xg 112 72 = some (.lreturn) := by decide +kernel
theorem i112_59 : xIns xg 112 59 = some (.aload_n 0) := by decide +kernel
theorem i112_60 : xIns xg 112 60 = some (.getfield 47) := by decide +kernel
theorem i112_63 : xIns xg 112 63 = some (.getfield 179) := by decide +kernel
theorem i112_66 : xIns xg 112 66 = some (.goto 6) := by decide +kernel
theorem i112_50 : xIns xg 112 50 = some (.ldc2_w 203) := by decide +kernel
theorem c112_203 : xCon xg 112 203 = some (vl (-6)) := by decide +kernel
theorem i112_53 : xIns xg 112 53 = some (.lreturn) := by decide +kernel
theorem i112_11 : xIns xg 112 11 = some (.ldc2_w 133) := by decide +kernel
theorem i112_14 : xIns xg 112 14 = some (.lreturn) := by decide +kernel
def d_x7_sum (N : Nat)  (s : St) (a0 : Int) (a1 : Int) : Option Rs :=
  bI (d_x7_refusedRow N  s a0 a1 64) fun s1 v2 => (if (w32 v2) = 0 then bV (d_x4_begin N 26 s1 (s1 0 12)) fun s3 => bI (d_x4_addUp N 26 s3 a0 a1) fun s5 v6 => bI (d_x7_counted N  s5 v6) fun s7 v8 => (if (w32 v8) = (-6) then some (s7, (-6)) else (if (w32 v8) = 1 then some (s7, (s7 50 4)) else some (s7, (-4611686018427387904)))) else some (s1, (-4611686018427387904)))
set_option maxHeartbeats 4000000 in
set_option maxRecDepth 100000 in
theorem c_x7_sum {sc : xS} {d : Nat} {R : Rs} (N : Nat)  (hd : 443 ≤ d)   (s : St) (a0 : Int) (a1 : Int) : d_x7_sum N  s a0 a1 = some R → vT sc d 112 0 [(0, .ref 0), (1, vi a0), (2, vi a1)] [] s (fun r => r = qL R) := by
  obtain ⟨d, rfl⟩ : ∃ d', d = d' + 1 := ⟨d - 1, by omega⟩
  unfold d_x7_sum
  refine vLan 1 i112_0 rfl rfl ?_
  refine vLin 2 i112_1 rfl rfl ?_
  refine vLin 3 i112_2 rfl rfl ?_
  refine vKb 5 i112_3 (by decide) rfl ?_
  refine vCallI 8 [.ref 0, vi a0, vi a1, vi 64] [] [(0, .ref 0), (1, vi a0), (2, vi a1), (3, vi 64)] i112_5 rfl (xlk0 l112_196) (Or.inl rfl) m109 rfl rfl (Nat.le_of_ble_eq_true rfl) (Nat.le_of_ble_eq_true rfl) (Nat.le_of_ble_eq_true rfl) (xh0 sh_0 (by decide)) rfl rfl (fun R1 => c_x7_refusedRow N   (by omega) s a0 a1 64) (fun s1 v2 => ?_)
  refine vZeq 15 11 rfl i112_8 rfl rfl ?_ ?_
  · refine vLan 16 i112_15 rfl rfl ?_
    refine vGetC 19 i112_16 f112_47 sh_0 rfl rfl ?_
    refine vLan 20 i112_19 rfl rfl ?_
    refine vGetC 23 i112_20 f112_35 sh_0 rfl rfl ?_
    refine vLan 24 i112_23 rfl rfl ?_
    refine vGet 27 i112_24 f112_76 sh_0 rfl rfl ?_
    refine vCallV 30 [.ref 50, .ref 26, vi (s1 0 12)] [] [(0, .ref 50), (1, .ref 26), (2, vi (s1 0 12))] i112_27 rfl (xlk0 l112_166) (Or.inl rfl) m42 rfl rfl (Nat.le_of_ble_eq_true rfl) (Nat.le_of_ble_eq_true rfl) (Nat.le_of_ble_eq_true rfl) (xh0 sh_50 (by decide)) rfl rfl (fun R1 => c_x4_begin N 26 isTold_26 (by omega) s1 (s1 0 12)) (fun s3 => ?_)
    refine vLan 31 i112_30 rfl rfl ?_
    refine vLan 32 i112_31 rfl rfl ?_
    refine vGetC 35 i112_32 f112_47 sh_0 rfl rfl ?_
    refine vLin 36 i112_35 rfl rfl ?_
    refine vLin 37 i112_36 rfl rfl ?_
    refine vCallI 40 [.ref 50, vi a0, vi a1] [.ref 0] [(0, .ref 50), (1, vi a0), (2, vi a1)] i112_37 rfl (xlk0 l112_200) (Or.inl rfl) m39 rfl rfl (Nat.le_of_ble_eq_true rfl) (Nat.le_of_ble_eq_true rfl) (Nat.le_of_ble_eq_true rfl) (xh0 sh_50 (by decide)) rfl rfl (fun R1 => c_x4_addUp N 26 isTold_26 (by omega) s3 a0 a1) (fun s5 v6 => ?_)
    refine vCallI 43 [.ref 0, vi v6] [] [(0, .ref 0), (1, vi v6)] i112_40 rfl (xlk0 l112_173) (Or.inl rfl) m82 rfl rfl (Nat.le_of_ble_eq_true rfl) (Nat.le_of_ble_eq_true rfl) (Nat.le_of_ble_eq_true rfl) (xh0 sh_0 (by decide)) rfl rfl (fun R1 => c_x7_counted N   (by omega) s5 v6) (fun s7 v8 => ?_)
    refine vSin0 44 [(3, vi v8), (0, .ref 0), (1, vi a0), (2, vi a1)] i112_43 m112 (by decide) rfl rfl ?_
    refine vLin 45 i112_44 rfl rfl ?_
    refine vKb 47 i112_45 (by decide) rfl ?_
    refine vCne 54 50 rfl (show w32 (-6) = (-6) from rfl) i112_47 rfl rfl ?_ ?_
    · refine vLin 55 i112_54 rfl rfl ?_
      refine vK 56 i112_55 rfl ?_
      refine vCne 69 59 rfl (show w32 1 = 1 from rfl) i112_56 rfl rfl ?_ ?_
      · refine vKd 72 i112_69 c112_133 rfl ?_
        exact vRl i112_72 m112
      · refine vLan 60 i112_59 rfl rfl ?_
        refine vGetC 63 i112_60 f112_47 sh_0 rfl rfl ?_
        refine vGetL 66 i112_63 f112_179 sh_50 rfl rfl ?_
        refine vGo 72 i112_66 rfl ?_
        exact vRl i112_72 m112
    · refine vKd 53 i112_50 c112_203 rfl ?_
      exact vRl i112_53 m112
  · refine vKd 14 i112_11 c112_133 rfl ?_
    exact vRl i112_14 m112
theorem f88_47 : xFld xg 88 47 = some (6, 5) := by decide +kernel
theorem f88_35 : xFld xg 88 35 = some (6, 3) := by decide +kernel
theorem f88_76 : xFld xg 88 76 = some (6, 12) := by decide +kernel
theorem i88_0 : xIns xg 88 0 = some (.aload_n 0) := by decide +kernel
theorem i88_1 : xIns xg 88 1 = some (.iload_n 1) := by decide +kernel
theorem i88_2 : xIns xg 88 2 = some (.iload 4) := by decide +kernel
theorem i88_4 : xIns xg 88 4 = some (.bipush 64) := by decide +kernel
theorem i88_6 : xIns xg 88 6 = some (.invokevirtual 196) := by decide +kernel
theorem i88_9 : xIns xg 88 9 = some (.istore 5) := by decide +kernel
theorem m88 : (xMet xg 88).2.2 = (6, (some .int)) := by decide +kernel
theorem i88_11 : xIns xg 88 11 = some (.iload 5) := by decide +kernel
theorem i88_13 : xIns xg 88 13 = some (.ifCond .eq 6) := by decide +kernel
theorem i88_19 : xIns xg 88 19 = some (.aload_n 0) := by decide +kernel
theorem i88_20 : xIns xg 88 20 = some (.getfield 47) := by decide +kernel
theorem i88_23 : xIns xg 88 23 = some (.aload_n 0) := by decide +kernel
theorem i88_24 : xIns xg 88 24 = some (.getfield 35) := by decide +kernel
theorem i88_27 : xIns xg 88 27 = some (.aload_n 0) := by decide +kernel
theorem i88_28 : xIns xg 88 28 = some (.getfield 76) := by decide +kernel
theorem i88_31 : xIns xg 88 31 = some (.invokevirtual 166) := by decide +kernel
theorem i88_34 : xIns xg 88 34 = some (.aload_n 0) := by decide +kernel
theorem i88_35 : xIns xg 88 35 = some (.aload_n 0) := by decide +kernel
theorem i88_36 : xIns xg 88 36 = some (.getfield 47) := by decide +kernel
theorem i88_39 : xIns xg 88 39 = some (.iload_n 1) := by decide +kernel
theorem i88_40 : xIns xg 88 40 = some (.lload_n 2) := by decide +kernel
theorem i88_41 : xIns xg 88 41 = some (.iload 4) := by decide +kernel
theorem i88_43 : xIns xg 88 43 = some (.invokevirtual 205) := by decide +kernel
theorem i88_46 : xIns xg 88 46 = some (.invokevirtual 173) := by decide +kernel
theorem i88_49 : xIns xg 88 49 = some (.ireturn) := by decide +kernel
theorem i88_16 : xIns xg 88 16 = some (.iload 5) := by decide +kernel
theorem i88_18 : xIns xg 88 18 = some (.ireturn) := by decide +kernel
def d_x7_find (N : Nat)  (s : St) (a0 : Int) (a1 : Int) (a2 : Int) : Option Rs :=
  bI (d_x7_refusedRow N  s a0 a2 64) fun s1 v2 => (if (w32 v2) = 0 then bV (d_x4_begin N 26 s1 (s1 0 12)) fun s3 => bI (d_x4_placeOf N 26 s3 a0 a1 a2) fun s5 v6 => bI (d_x7_counted N  s5 v6) fun s7 v8 => some (s7, v8) else some (s1, v2))
set_option maxHeartbeats 4000000 in
set_option maxRecDepth 100000 in
theorem c_x7_find {sc : xS} {d : Nat} {R : Rs} (N : Nat)  (hd : 443 ≤ d)   (s : St) (a0 : Int) (a1 : Int) (a2 : Int) : d_x7_find N  s a0 a1 a2 = some R → vT sc d 88 0 [(0, .ref 0), (1, vi a0), (2, vl a1), (4, vi a2)] [] s (fun r => r = qI R) := by
  obtain ⟨d, rfl⟩ : ∃ d', d = d' + 1 := ⟨d - 1, by omega⟩
  unfold d_x7_find
  refine vLan 1 i88_0 rfl rfl ?_
  refine vLin 2 i88_1 rfl rfl ?_
  refine vLi 4 i88_2 rfl rfl ?_
  refine vKb 6 i88_4 (by decide) rfl ?_
  refine vCallI 9 [.ref 0, vi a0, vi a2, vi 64] [] [(0, .ref 0), (1, vi a0), (2, vi a2), (3, vi 64)] i88_6 rfl (xlk0 l88_196) (Or.inl rfl) m109 rfl rfl (Nat.le_of_ble_eq_true rfl) (Nat.le_of_ble_eq_true rfl) (Nat.le_of_ble_eq_true rfl) (xh0 sh_0 (by decide)) rfl rfl (fun R1 => c_x7_refusedRow N   (by omega) s a0 a2 64) (fun s1 v2 => ?_)
  refine vSi0 11 [(5, vi v2), (0, .ref 0), (1, vi a0), (2, vl a1), (4, vi a2)] i88_9 m88 (by decide) rfl rfl ?_
  refine vLi 13 i88_11 rfl rfl ?_
  refine vZeq 19 16 rfl i88_13 rfl rfl ?_ ?_
  · refine vLan 20 i88_19 rfl rfl ?_
    refine vGetC 23 i88_20 f88_47 sh_0 rfl rfl ?_
    refine vLan 24 i88_23 rfl rfl ?_
    refine vGetC 27 i88_24 f88_35 sh_0 rfl rfl ?_
    refine vLan 28 i88_27 rfl rfl ?_
    refine vGet 31 i88_28 f88_76 sh_0 rfl rfl ?_
    refine vCallV 34 [.ref 50, .ref 26, vi (s1 0 12)] [] [(0, .ref 50), (1, .ref 26), (2, vi (s1 0 12))] i88_31 rfl (xlk0 l88_166) (Or.inl rfl) m42 rfl rfl (Nat.le_of_ble_eq_true rfl) (Nat.le_of_ble_eq_true rfl) (Nat.le_of_ble_eq_true rfl) (xh0 sh_50 (by decide)) rfl rfl (fun R1 => c_x4_begin N 26 isTold_26 (by omega) s1 (s1 0 12)) (fun s3 => ?_)
    refine vLan 35 i88_34 rfl rfl ?_
    refine vLan 36 i88_35 rfl rfl ?_
    refine vGetC 39 i88_36 f88_47 sh_0 rfl rfl ?_
    refine vLin 40 i88_39 rfl rfl ?_
    refine vLln 41 i88_40 rfl rfl ?_
    refine vLi 43 i88_41 rfl rfl ?_
    refine vCallI 46 [.ref 50, vi a0, vl a1, vi a2] [.ref 0] [(0, .ref 50), (1, vi a0), (2, vl a1), (4, vi a2)] i88_43 rfl (xlk0 l88_205) (Or.inl rfl) m54 rfl rfl (Nat.le_of_ble_eq_true rfl) (Nat.le_of_ble_eq_true rfl) (Nat.le_of_ble_eq_true rfl) (xh0 sh_50 (by decide)) rfl rfl (fun R1 => c_x4_placeOf N 26 isTold_26 (by omega) s3 a0 a1 a2) (fun s5 v6 => ?_)
    refine vCallI 49 [.ref 0, vi v6] [] [(0, .ref 0), (1, vi v6)] i88_46 rfl (xlk0 l88_173) (Or.inl rfl) m82 rfl rfl (Nat.le_of_ble_eq_true rfl) (Nat.le_of_ble_eq_true rfl) (Nat.le_of_ble_eq_true rfl) (xh0 sh_0 (by decide)) rfl rfl (fun R1 => c_x7_counted N   (by omega) s5 v6) (fun s7 v8 => ?_)
    exact vRi i88_49 m88 rfl
  · refine vLi 18 i88_16 rfl rfl ?_
    exact vRi i88_18 m88 rfl
theorem f83_47 : xFld xg 83 47 = some (6, 5) := by decide +kernel
theorem f83_35 : xFld xg 83 35 = some (6, 3) := by decide +kernel
theorem f83_76 : xFld xg 83 76 = some (6, 12) := by decide +kernel
theorem i83_0 : xIns xg 83 0 = some (.iload_n 1) := by decide +kernel
theorem i83_1 : xIns xg 83 1 = some (.invokestatic 86) := by decide +kernel
theorem i83_4 : xIns xg 83 4 = some (.ifCond .eq 20) := by decide +kernel
theorem i83_24 : xIns xg 83 24 = some (.bipush (-2)) := by decide +kernel
theorem i83_26 : xIns xg 83 26 = some (.ireturn) := by decide +kernel
theorem m83 : (xMet xg 83).2.2 = (4, (some .int)) := by decide +kernel
theorem i83_7 : xIns xg 83 7 = some (.iload_n 2) := by decide +kernel
theorem i83_8 : xIns xg 83 8 = some (.invokestatic 86) := by decide +kernel
theorem i83_11 : xIns xg 83 11 = some (.ifCond .eq 13) := by decide +kernel
theorem i83_14 : xIns xg 83 14 = some (.iload_n 3) := by decide +kernel
theorem i83_15 : xIns xg 83 15 = some (.ifCond .lt 9) := by decide +kernel
theorem i83_18 : xIns xg 83 18 = some (.iload_n 3) := by decide +kernel
theorem i83_19 : xIns xg 83 19 = some (.bipush 64) := by decide +kernel
theorem i83_21 : xIns xg 83 21 = some (.if_icmp .le 6) := by decide +kernel
theorem i83_27 : xIns xg 83 27 = some (.aload_n 0) := by decide +kernel
theorem i83_28 : xIns xg 83 28 = some (.iload_n 1) := by decide +kernel
theorem i83_29 : xIns xg 83 29 = some (.invokevirtual 108) := by decide +kernel
theorem i83_32 : xIns xg 83 32 = some (.ifCond .ne 11) := by decide +kernel
theorem i83_43 : xIns xg 83 43 = some (.bipush (-3)) := by decide +kernel
theorem i83_45 : xIns xg 83 45 = some (.ireturn) := by decide +kernel
theorem i83_35 : xIns xg 83 35 = some (.aload_n 0) := by decide +kernel
theorem i83_36 : xIns xg 83 36 = some (.iload_n 2) := by decide +kernel
theorem i83_37 : xIns xg 83 37 = some (.invokevirtual 108) := by decide +kernel
theorem i83_40 : xIns xg 83 40 = some (.ifCond .eq 6) := by decide +kernel
theorem i83_46 : xIns xg 83 46 = some (.aload_n 0) := by decide +kernel
theorem i83_47 : xIns xg 83 47 = some (.getfield 47) := by decide +kernel
theorem i83_50 : xIns xg 83 50 = some (.aload_n 0) := by decide +kernel
theorem i83_51 : xIns xg 83 51 = some (.getfield 35) := by decide +kernel
theorem i83_54 : xIns xg 83 54 = some (.aload_n 0) := by decide +kernel
theorem i83_55 : xIns xg 83 55 = some (.getfield 76) := by decide +kernel
theorem i83_58 : xIns xg 83 58 = some (.invokevirtual 166) := by decide +kernel
theorem i83_61 : xIns xg 83 61 = some (.aload_n 0) := by decide +kernel
theorem i83_62 : xIns xg 83 62 = some (.aload_n 0) := by decide +kernel
theorem i83_63 : xIns xg 83 63 = some (.getfield 47) := by decide +kernel
theorem i83_66 : xIns xg 83 66 = some (.iload_n 1) := by decide +kernel
theorem i83_67 : xIns xg 83 67 = some (.iload_n 2) := by decide +kernel
theorem i83_68 : xIns xg 83 68 = some (.iload_n 3) := by decide +kernel
theorem i83_69 : xIns xg 83 69 = some (.invokevirtual 209) := by decide +kernel
theorem i83_72 : xIns xg 83 72 = some (.invokevirtual 173) := by decide +kernel
theorem i83_75 : xIns xg 83 75 = some (.ireturn) := by decide +kernel
def d_x7_differ (N : Nat)  (s : St) (a0 : Int) (a1 : Int) (a2 : Int) : Option Rs :=
  bI (d_x7_isStream N  s a0) fun s1 v2 => (if (w32 v2) = 0 then some (s1, (-2)) else bI (d_x7_isStream N  s1 a1) fun s3 v4 => (if (w32 v4) = 0 then some (s3, (-2)) else (if (w32 a2) < 0 then some (s3, (-2)) else (if 64 < (w32 a2) then some (s3, (-2)) else bI (d_x7_isEmpty N  s3 a0) fun s5 v6 => (if (w32 v6) = 0 then bI (d_x7_isEmpty N  s5 a1) fun s7 v8 => (if (w32 v8) = 0 then bV (d_x4_begin N 26 s7 (s7 0 12)) fun s9 => bI (d_x4_firstUnlike N 26 s9 a0 a1 a2) fun s11 v12 => bI (d_x7_counted N  s11 v12) fun s13 v14 => some (s13, v14) else some (s7, (-3))) else some (s5, (-3)))))))
set_option maxHeartbeats 4000000 in
set_option maxRecDepth 100000 in
theorem c_x7_differ {sc : xS} {d : Nat} {R : Rs} (N : Nat)  (hd : 443 ≤ d)   (s : St) (a0 : Int) (a1 : Int) (a2 : Int) : d_x7_differ N  s a0 a1 a2 = some R → vT sc d 83 0 [(0, .ref 0), (1, vi a0), (2, vi a1), (3, vi a2)] [] s (fun r => r = qI R) := by
  obtain ⟨d, rfl⟩ : ∃ d', d = d' + 1 := ⟨d - 1, by omega⟩
  unfold d_x7_differ
  refine vLin 1 i83_0 rfl rfl ?_
  refine vCallI 4 [vi a0] [] [(0, vi a0)] i83_1 rfl (xlk1 l83_86) (Or.inr (Or.inl rfl)) m98 rfl rfl (Nat.le_of_ble_eq_true rfl) (Nat.le_of_ble_eq_true rfl) (Nat.le_of_ble_eq_true rfl) rfl rfl rfl (fun R1 => c_x7_isStream N   (by omega) s a0) (fun s1 v2 => ?_)
  refine vZeq 24 7 rfl i83_4 rfl rfl ?_ ?_
  · refine vKb 26 i83_24 (by decide) rfl ?_
    exact vRi i83_26 m83 rfl
  · refine vLin 8 i83_7 rfl rfl ?_
    refine vCallI 11 [vi a1] [] [(0, vi a1)] i83_8 rfl (xlk1 l83_86) (Or.inr (Or.inl rfl)) m98 rfl rfl (Nat.le_of_ble_eq_true rfl) (Nat.le_of_ble_eq_true rfl) (Nat.le_of_ble_eq_true rfl) rfl rfl rfl (fun R1 => c_x7_isStream N   (by omega) s1 a1) (fun s3 v4 => ?_)
    refine vZeq 24 14 rfl i83_11 rfl rfl ?_ ?_
    · refine vKb 26 i83_24 (by decide) rfl ?_
      exact vRi i83_26 m83 rfl
    · refine vLin 15 i83_14 rfl rfl ?_
      refine vZlt 24 18 rfl i83_15 rfl rfl ?_ ?_
      · refine vKb 26 i83_24 (by decide) rfl ?_
        exact vRi i83_26 m83 rfl
      · refine vLin 19 i83_18 rfl rfl ?_
        refine vKb 21 i83_19 (by decide) rfl ?_
        refine vCle 27 24 rfl (show w32 64 = 64 from rfl) i83_21 rfl rfl ?_ ?_
        · refine vLan 28 i83_27 rfl rfl ?_
          refine vLin 29 i83_28 rfl rfl ?_
          refine vCallI 32 [.ref 0, vi a0] [] [(0, .ref 0), (1, vi a0)] i83_29 rfl (xlk0 l83_108) (Or.inl rfl) m95 rfl rfl (Nat.le_of_ble_eq_true rfl) (Nat.le_of_ble_eq_true rfl) (Nat.le_of_ble_eq_true rfl) (xh0 sh_0 (by decide)) rfl rfl (fun R1 => c_x7_isEmpty N   (by omega) s3 a0) (fun s5 v6 => ?_)
          refine vZne 43 35 rfl i83_32 rfl rfl ?_ ?_
          · refine vKb 45 i83_43 (by decide) rfl ?_
            exact vRi i83_45 m83 rfl
          · refine vLan 36 i83_35 rfl rfl ?_
            refine vLin 37 i83_36 rfl rfl ?_
            refine vCallI 40 [.ref 0, vi a1] [] [(0, .ref 0), (1, vi a1)] i83_37 rfl (xlk0 l83_108) (Or.inl rfl) m95 rfl rfl (Nat.le_of_ble_eq_true rfl) (Nat.le_of_ble_eq_true rfl) (Nat.le_of_ble_eq_true rfl) (xh0 sh_0 (by decide)) rfl rfl (fun R1 => c_x7_isEmpty N   (by omega) s5 a1) (fun s7 v8 => ?_)
            refine vZeq 46 43 rfl i83_40 rfl rfl ?_ ?_
            · refine vLan 47 i83_46 rfl rfl ?_
              refine vGetC 50 i83_47 f83_47 sh_0 rfl rfl ?_
              refine vLan 51 i83_50 rfl rfl ?_
              refine vGetC 54 i83_51 f83_35 sh_0 rfl rfl ?_
              refine vLan 55 i83_54 rfl rfl ?_
              refine vGet 58 i83_55 f83_76 sh_0 rfl rfl ?_
              refine vCallV 61 [.ref 50, .ref 26, vi (s7 0 12)] [] [(0, .ref 50), (1, .ref 26), (2, vi (s7 0 12))] i83_58 rfl (xlk0 l83_166) (Or.inl rfl) m42 rfl rfl (Nat.le_of_ble_eq_true rfl) (Nat.le_of_ble_eq_true rfl) (Nat.le_of_ble_eq_true rfl) (xh0 sh_50 (by decide)) rfl rfl (fun R1 => c_x4_begin N 26 isTold_26 (by omega) s7 (s7 0 12)) (fun s9 => ?_)
              refine vLan 62 i83_61 rfl rfl ?_
              refine vLan 63 i83_62 rfl rfl ?_
              refine vGetC 66 i83_63 f83_47 sh_0 rfl rfl ?_
              refine vLin 67 i83_66 rfl rfl ?_
              refine vLin 68 i83_67 rfl rfl ?_
              refine vLin 69 i83_68 rfl rfl ?_
              refine vCallI 72 [.ref 50, vi a0, vi a1, vi a2] [.ref 0] [(0, .ref 50), (1, vi a0), (2, vi a1), (3, vi a2)] i83_69 rfl (xlk0 l83_209) (Or.inl rfl) m46 rfl rfl (Nat.le_of_ble_eq_true rfl) (Nat.le_of_ble_eq_true rfl) (Nat.le_of_ble_eq_true rfl) (xh0 sh_50 (by decide)) rfl rfl (fun R1 => c_x4_firstUnlike N 26 isTold_26 (by omega) s9 a0 a1 a2) (fun s11 v12 => ?_)
              refine vCallI 75 [.ref 0, vi v12] [] [(0, .ref 0), (1, vi v12)] i83_72 rfl (xlk0 l83_173) (Or.inl rfl) m82 rfl rfl (Nat.le_of_ble_eq_true rfl) (Nat.le_of_ble_eq_true rfl) (Nat.le_of_ble_eq_true rfl) (xh0 sh_0 (by decide)) rfl rfl (fun R1 => c_x7_counted N   (by omega) s11 v12) (fun s13 v14 => ?_)
              exact vRi i83_75 m83 rfl
            · refine vKb 45 i83_43 (by decide) rfl ?_
              exact vRi i83_45 m83 rfl
        · refine vKb 26 i83_24 (by decide) rfl ?_
          exact vRi i83_26 m83 rfl
theorem f110_47 : xFld xg 110 47 = some (6, 5) := by decide +kernel
theorem f110_35 : xFld xg 110 35 = some (6, 3) := by decide +kernel
theorem f110_76 : xFld xg 110 76 = some (6, 12) := by decide +kernel
theorem i110_0 : xIns xg 110 0 = some (.aload_n 0) := by decide +kernel
theorem i110_1 : xIns xg 110 1 = some (.iload_n 1) := by decide +kernel
theorem i110_2 : xIns xg 110 2 = some (.iconst 0) := by decide +kernel
theorem i110_3 : xIns xg 110 3 = some (.bipush 64) := by decide +kernel
theorem i110_5 : xIns xg 110 5 = some (.invokevirtual 196) := by decide +kernel
theorem i110_8 : xIns xg 110 8 = some (.istore_n 2) := by decide +kernel
theorem m110 : (xMet xg 110).2.2 = (3, (some .int)) := by decide +kernel
theorem i110_9 : xIns xg 110 9 = some (.iload_n 2) := by decide +kernel
theorem i110_10 : xIns xg 110 10 = some (.ifCond .eq 5) := by decide +kernel
theorem i110_15 : xIns xg 110 15 = some (.aload_n 0) := by decide +kernel
theorem i110_16 : xIns xg 110 16 = some (.getfield 47) := by decide +kernel
theorem i110_19 : xIns xg 110 19 = some (.aload_n 0) := by decide +kernel
theorem i110_20 : xIns xg 110 20 = some (.getfield 35) := by decide +kernel
theorem i110_23 : xIns xg 110 23 = some (.aload_n 0) := by decide +kernel
theorem i110_24 : xIns xg 110 24 = some (.getfield 76) := by decide +kernel
theorem i110_27 : xIns xg 110 27 = some (.invokevirtual 166) := by decide +kernel
theorem i110_30 : xIns xg 110 30 = some (.aload_n 0) := by decide +kernel
theorem i110_31 : xIns xg 110 31 = some (.aload_n 0) := by decide +kernel
theorem i110_32 : xIns xg 110 32 = some (.getfield 47) := by decide +kernel
theorem i110_35 : xIns xg 110 35 = some (.iload_n 1) := by decide +kernel
theorem i110_36 : xIns xg 110 36 = some (.invokevirtual 212) := by decide +kernel
theorem i110_39 : xIns xg 110 39 = some (.invokevirtual 173) := by decide +kernel
theorem i110_42 : xIns xg 110 42 = some (.ireturn) := by decide +kernel
theorem i110_13 : xIns xg 110 13 = some (.iload_n 2) := by decide +kernel
theorem i110_14 : xIns xg 110 14 = some (.ireturn) := by decide +kernel
def d_x7_rises (N : Nat)  (s : St) (a0 : Int) : Option Rs :=
  bI (d_x7_refusedRow N  s a0 0 64) fun s1 v2 => (if (w32 v2) = 0 then bV (d_x4_begin N 26 s1 (s1 0 12)) fun s3 => bI (d_x4_rising N 26 s3 a0) fun s5 v6 => bI (d_x7_counted N  s5 v6) fun s7 v8 => some (s7, v8) else some (s1, v2))
set_option maxHeartbeats 4000000 in
set_option maxRecDepth 100000 in
theorem c_x7_rises {sc : xS} {d : Nat} {R : Rs} (N : Nat)  (hd : 443 ≤ d)   (s : St) (a0 : Int) : d_x7_rises N  s a0 = some R → vT sc d 110 0 [(0, .ref 0), (1, vi a0)] [] s (fun r => r = qI R) := by
  obtain ⟨d, rfl⟩ : ∃ d', d = d' + 1 := ⟨d - 1, by omega⟩
  unfold d_x7_rises
  refine vLan 1 i110_0 rfl rfl ?_
  refine vLin 2 i110_1 rfl rfl ?_
  refine vK 3 i110_2 rfl ?_
  refine vKb 5 i110_3 (by decide) rfl ?_
  refine vCallI 8 [.ref 0, vi a0, vi 0, vi 64] [] [(0, .ref 0), (1, vi a0), (2, vi 0), (3, vi 64)] i110_5 rfl (xlk0 l110_196) (Or.inl rfl) m109 rfl rfl (Nat.le_of_ble_eq_true rfl) (Nat.le_of_ble_eq_true rfl) (Nat.le_of_ble_eq_true rfl) (xh0 sh_0 (by decide)) rfl rfl (fun R1 => c_x7_refusedRow N   (by omega) s a0 0 64) (fun s1 v2 => ?_)
  refine vSin0 9 [(2, vi v2), (0, .ref 0), (1, vi a0)] i110_8 m110 (by decide) rfl rfl ?_
  refine vLin 10 i110_9 rfl rfl ?_
  refine vZeq 15 13 rfl i110_10 rfl rfl ?_ ?_
  · refine vLan 16 i110_15 rfl rfl ?_
    refine vGetC 19 i110_16 f110_47 sh_0 rfl rfl ?_
    refine vLan 20 i110_19 rfl rfl ?_
    refine vGetC 23 i110_20 f110_35 sh_0 rfl rfl ?_
    refine vLan 24 i110_23 rfl rfl ?_
    refine vGet 27 i110_24 f110_76 sh_0 rfl rfl ?_
    refine vCallV 30 [.ref 50, .ref 26, vi (s1 0 12)] [] [(0, .ref 50), (1, .ref 26), (2, vi (s1 0 12))] i110_27 rfl (xlk0 l110_166) (Or.inl rfl) m42 rfl rfl (Nat.le_of_ble_eq_true rfl) (Nat.le_of_ble_eq_true rfl) (Nat.le_of_ble_eq_true rfl) (xh0 sh_50 (by decide)) rfl rfl (fun R1 => c_x4_begin N 26 isTold_26 (by omega) s1 (s1 0 12)) (fun s3 => ?_)
    refine vLan 31 i110_30 rfl rfl ?_
    refine vLan 32 i110_31 rfl rfl ?_
    refine vGetC 35 i110_32 f110_47 sh_0 rfl rfl ?_
    refine vLin 36 i110_35 rfl rfl ?_
    refine vCallI 39 [.ref 50, vi a0] [.ref 0] [(0, .ref 50), (1, vi a0)] i110_36 rfl (xlk0 l110_212) (Or.inl rfl) m55 rfl rfl (Nat.le_of_ble_eq_true rfl) (Nat.le_of_ble_eq_true rfl) (Nat.le_of_ble_eq_true rfl) (xh0 sh_50 (by decide)) rfl rfl (fun R1 => c_x4_rising N 26 isTold_26 (by omega) s3 a0) (fun s5 v6 => ?_)
    refine vCallI 42 [.ref 0, vi v6] [] [(0, .ref 0), (1, vi v6)] i110_39 rfl (xlk0 l110_173) (Or.inl rfl) m82 rfl rfl (Nat.le_of_ble_eq_true rfl) (Nat.le_of_ble_eq_true rfl) (Nat.le_of_ble_eq_true rfl) (xh0 sh_0 (by decide)) rfl rfl (fun R1 => c_x7_counted N   (by omega) s5 v6) (fun s7 v8 => ?_)
    exact vRi i110_42 m110 rfl
  · refine vLin 14 i110_13 rfl rfl ?_
    exact vRi i110_14 m110 rfl
theorem i97_0 : xIns xg 97 0 = some (.iload_n 0) := by decide +kernel
theorem i97_1 : xIns xg 97 1 = some (.ifCond .lt 12) := by decide +kernel
theorem i97_13 : xIns xg 97 13 = some (.iconst 0) := by decide +kernel
theorem i97_14 : xIns xg 97 14 = some (.ireturn) := by decide +kernel
theorem m97 : (xMet xg 97).2.2 = (1, (some .boolean)) := by decide +kernel
theorem i97_4 : xIns xg 97 4 = some (.iload_n 0) := by decide +kernel
theorem i97_5 : xIns xg 97 5 = some (.iconst 4) := by decide +kernel
theorem i97_6 : xIns xg 97 6 = some (.if_icmp .ge 7) := by decide +kernel
theorem i97_9 : xIns xg 97 9 = some (.iconst 1) := by decide +kernel
theorem i97_10 : xIns xg 97 10 = some (.goto 4) := by decide +kernel
def d_x7_isSheet (N : Nat)  (s : St) (a0 : Int) : Option Rs :=
  (if (w32 a0) < 0 then some (s, 0) else (if (w32 a0) < 4 then some (s, 1) else some (s, 0)))
set_option maxHeartbeats 4000000 in
set_option maxRecDepth 100000 in
theorem c_x7_isSheet {sc : xS} {d : Nat} {R : Rs} (N : Nat)  (hd : 0 ≤ d)   (s : St) (a0 : Int) : d_x7_isSheet N  s a0 = some R → vT sc d 97 0 [(0, vi a0)] [] s (fun r => r = qI R) := by
  unfold d_x7_isSheet
  refine vLin 1 i97_0 rfl rfl ?_
  refine vZlt 13 4 rfl i97_1 rfl rfl ?_ ?_
  · refine vK 14 i97_13 rfl ?_
    exact vRi i97_14 m97 (by decide)
  · refine vLin 5 i97_4 rfl rfl ?_
    refine vK 6 i97_5 rfl ?_
    refine vCge 13 9 rfl (show w32 4 = 4 from rfl) i97_6 rfl rfl ?_ ?_
    · refine vK 14 i97_13 rfl ?_
      exact vRi i97_14 m97 (by decide)
    · refine vK 10 i97_9 rfl ?_
      refine vGo 14 i97_10 rfl ?_
      exact vRi i97_14 m97 (by decide)
theorem f87_47 : xFld xg 87 47 = some (6, 5) := by decide +kernel
theorem f87_35 : xFld xg 87 35 = some (6, 3) := by decide +kernel
theorem f87_76 : xFld xg 87 76 = some (6, 12) := by decide +kernel
theorem f87_58 : xFld xg 87 58 = some (6, 7) := by decide +kernel
theorem f87_54 : xFld xg 87 54 = some (6, 6) := by decide +kernel
theorem i87_86 : xIns xg 87 86 = some (.iload 6) := by decide +kernel
theorem i87_88 : xIns xg 87 88 = some (.iload 5) := by decide +kernel
theorem i87_90 : xIns xg 87 90 = some (.if_icmp .ge 26) := by decide +kernel
theorem i87_116 : xIns xg 87 116 = some (.iload 5) := by decide +kernel
theorem i87_118 : xIns xg 87 118 = some (.ireturn) := by decide +kernel
theorem m87 : (xMet xg 87).2.2 = (7, (some .int)) := by decide +kernel
theorem i87_93 : xIns xg 87 93 = some (.aload_n 0) := by decide +kernel
theorem i87_94 : xIns xg 87 94 = some (.getfield 54) := by decide +kernel
theorem i87_97 : xIns xg 87 97 = some (.iload_n 1) := by decide +kernel
theorem i87_98 : xIns xg 87 98 = some (.iload 6) := by decide +kernel
theorem i87_100 : xIns xg 87 100 = some (.aload_n 0) := by decide +kernel
theorem i87_101 : xIns xg 87 101 = some (.getfield 58) := by decide +kernel
theorem i87_104 : xIns xg 87 104 = some (.iload 6) := by decide +kernel
theorem i87_106 : xIns xg 87 106 = some (.laload) := by decide +kernel
theorem i87_107 : xIns xg 87 107 = some (.invokevirtual 226) := by decide +kernel
theorem i87_110 : xIns xg 87 110 = some (.iinc 6 1) := by decide +kernel
theorem i87_113 : xIns xg 87 113 = some (.goto (-27)) := by decide +kernel
theorem i87_0 : xIns xg 87 0 = some (.iload_n 1) := by decide +kernel
theorem i87_1 : xIns xg 87 1 = some (.invokestatic 215) := by decide +kernel
theorem i87_4 : xIns xg 87 4 = some (.ifCond .ne 6) := by decide +kernel
theorem i87_10 : xIns xg 87 10 = some (.aload_n 0) := by decide +kernel
theorem i87_11 : xIns xg 87 11 = some (.iload_n 2) := by decide +kernel
theorem i87_12 : xIns xg 87 12 = some (.iload_n 3) := by decide +kernel
theorem i87_13 : xIns xg 87 13 = some (.bipush 16) := by decide +kernel
theorem i87_15 : xIns xg 87 15 = some (.invokevirtual 196) := by decide +kernel
theorem i87_18 : xIns xg 87 18 = some (.istore 4) := by decide +kernel
theorem i87_20 : xIns xg 87 20 = some (.iload 4) := by decide +kernel
theorem i87_22 : xIns xg 87 22 = some (.ifCond .eq 6) := by decide +kernel
theorem i87_28 : xIns xg 87 28 = some (.aload_n 0) := by decide +kernel
theorem i87_29 : xIns xg 87 29 = some (.getfield 47) := by decide +kernel
theorem i87_32 : xIns xg 87 32 = some (.aload_n 0) := by decide +kernel
theorem i87_33 : xIns xg 87 33 = some (.getfield 35) := by decide +kernel
theorem i87_36 : xIns xg 87 36 = some (.aload_n 0) := by decide +kernel
theorem i87_37 : xIns xg 87 37 = some (.getfield 76) := by decide +kernel
theorem i87_40 : xIns xg 87 40 = some (.invokevirtual 166) := by decide +kernel
theorem i87_43 : xIns xg 87 43 = some (.aload_n 0) := by decide +kernel
theorem i87_44 : xIns xg 87 44 = some (.aload_n 0) := by decide +kernel
theorem i87_45 : xIns xg 87 45 = some (.getfield 47) := by decide +kernel
theorem i87_48 : xIns xg 87 48 = some (.iload_n 2) := by decide +kernel
theorem i87_49 : xIns xg 87 49 = some (.iload_n 3) := by decide +kernel
theorem i87_50 : xIns xg 87 50 = some (.aload_n 0) := by decide +kernel
theorem i87_51 : xIns xg 87 51 = some (.getfield 58) := by decide +kernel
theorem i87_54 : xIns xg 87 54 = some (.invokevirtual 218) := by decide +kernel
theorem i87_57 : xIns xg 87 57 = some (.invokevirtual 173) := by decide +kernel
theorem i87_60 : xIns xg 87 60 = some (.istore 5) := by decide +kernel
theorem i87_62 : xIns xg 87 62 = some (.iload 5) := by decide +kernel
theorem i87_64 : xIns xg 87 64 = some (.bipush (-6)) := by decide +kernel
theorem i87_66 : xIns xg 87 66 = some (.if_icmp .ne 6) := by decide +kernel
theorem i87_72 : xIns xg 87 72 = some (.aload_n 0) := by decide +kernel
theorem i87_73 : xIns xg 87 73 = some (.getfield 54) := by decide +kernel
theorem i87_76 : xIns xg 87 76 = some (.iload_n 1) := by decide +kernel
theorem i87_77 : xIns xg 87 77 = some (.iconst 0) := by decide +kernel
theorem i87_78 : xIns xg 87 78 = some (.iload 5) := by decide +kernel
theorem i87_80 : xIns xg 87 80 = some (.invokevirtual 222) := by decide +kernel
theorem i87_83 : xIns xg 87 83 = some (.iconst 0) := by decide +kernel
theorem i87_84 : xIns xg 87 84 = some (.istore 6) := by decide +kernel
theorem i87_69 : xIns xg 87 69 = some (.bipush (-6)) := by decide +kernel
theorem i87_71 : xIns xg 87 71 = some (.ireturn) := by decide +kernel
theorem i87_25 : xIns xg 87 25 = some (.iload 4) := by decide +kernel
theorem i87_27 : xIns xg 87 27 = some (.ireturn) := by decide +kernel
theorem i87_7 : xIns xg 87 7 = some (.bipush (-2)) := by decide +kernel
theorem i87_9 : xIns xg 87 9 = some (.ireturn) := by decide +kernel
def d_x7_film_86 (N : Nat)  (k86 : St → Int → Int → Int → Option Rs) (s : St) (x1 : Int) (x5 : Int) (x6 : Int) : Option Rs :=
  (if (w32 x6) < (w32 x5) then if 0 ≤ (w32 x6) ∧ (w32 x6) < ((16 : Nat) : Int) then bV (d_x3_write N  s x1 x6 (s 55 (Int.toNat (w32 x6)))) fun s1 => bd (x6 + 1) fun v3 => k86 s1 x1 x5 v3 else none else some (s, x5))
def d_x7_film_86L (N : Nat)  : Nat → St → Int → Int → Int → Option Rs
  | 0 => fun _ _ _ _ => none
  | n + 1 => d_x7_film_86 N  (d_x7_film_86L N  n)
set_option maxHeartbeats 4000000 in
set_option maxRecDepth 100000 in
theorem c_x7_film_86 {sc : xS} {d : Nat} {R : Rs} (N : Nat)  (hd : 443 ≤ d)   (k86 : St → Int → Int → Int → Option Rs) (hk86 : ∀ (s : St) (x1 : Int) (x5 : Int) (x6 : Int), k86 s x1 x5 x6 = some R → vT sc d 87 86 [(0, .ref 0), (1, vi x1), (5, vi x5), (6, vi x6)] [] s (fun r => r = qI R)) (s : St) (x1 : Int) (x5 : Int) (x6 : Int) : d_x7_film_86 N  k86 s x1 x5 x6 = some R → vT sc d 87 86 [(0, .ref 0), (1, vi x1), (5, vi x5), (6, vi x6)] [] s (fun r => r = qI R) := by
  obtain ⟨d, rfl⟩ : ∃ d', d = d' + 1 := ⟨d - 1, by omega⟩
  unfold d_x7_film_86
  refine vLi 88 i87_86 rfl rfl ?_
  refine vLi 90 i87_88 rfl rfl ?_
  refine vCge 116 93 rfl rfl i87_90 rfl rfl ?_ ?_
  · refine vLi 118 i87_116 rfl rfl ?_
    exact vRi i87_118 m87 rfl
  · refine vLan 94 i87_93 rfl rfl ?_
    refine vGetC 97 i87_94 f87_54 sh_0 rfl rfl ?_
    refine vLin 98 i87_97 rfl rfl ?_
    refine vLi 100 i87_98 rfl rfl ?_
    refine vLan 101 i87_100 rfl rfl ?_
    refine vGetC 104 i87_101 f87_58 sh_0 rfl rfl ?_
    refine vLi 106 i87_104 rfl rfl ?_
    refine vLal 107 rfl i87_106 sh_55 rfl ?_
    refine vCallV 110 [.ref 51, vi x1, vi x6, vl (s 55 (Int.toNat (w32 x6)))] [] [(0, .ref 51), (1, vi x1), (2, vi x6), (3, vl (s 55 (Int.toNat (w32 x6))))] i87_107 rfl (xlk0 l87_226) (Or.inl rfl) m38 rfl rfl (Nat.le_of_ble_eq_true rfl) (Nat.le_of_ble_eq_true rfl) (Nat.le_of_ble_eq_true rfl) (xh0 sh_51 (by decide)) rfl rfl (fun R1 => c_x3_write N   (by omega) s x1 x6 (s 55 (Int.toNat (w32 x6)))) (fun s1 => ?_)
    refine vInc 113 (fun v3 => [(6, vi v3), (0, .ref 0), (1, vi x1), (5, vi x5)]) i87_110 m87 (by decide) rfl (fun _ => rfl) rfl (fun v3 => ?_)
    refine vGo 86 i87_113 rfl ?_
    exact fun hD => tLc [(0, .ref 0), (1, vi x1), (5, vi x5), (6, vi v3)] (xNdk [0, 1, 5, 6] rfl (by decide)) (xNdk [6, 0, 1, 5] rfl (by decide)) ⟨rfl, rfl, rfl, rfl, trivial⟩ (hk86 s1 x1 x5 v3 hD)
theorem c_x7_film_86L {sc : xS} {d : Nat} {R : Rs} (N : Nat)  (hd : 443 ≤ d)   : ∀ (n : Nat) (s : St) (x1 : Int) (x5 : Int) (x6 : Int), d_x7_film_86L N  n s x1 x5 x6 = some R → vT sc d 87 86 [(0, .ref 0), (1, vi x1), (5, vi x5), (6, vi x6)] [] s (fun r => r = qI R) := by
  intro n
  induction n with
  | zero => intro s x1 x5 x6 hD; cases hD
  | succ n ih => intro s x1 x5 x6 hD; exact c_x7_film_86 N  hd  _ ih s x1 x5 x6 hD
def d_x7_film (N : Nat)  (s : St) (a0 : Int) (a1 : Int) (a2 : Int) : Option Rs :=
  bI (d_x7_isSheet N  s a0) fun s4 v5 => (if (w32 v5) = 0 then some (s4, (-2)) else bI (d_x7_refusedRow N  s4 a1 a2 16) fun s6 v7 => (if (w32 v7) = 0 then bV (d_x4_begin N 26 s6 (s6 0 12)) fun s8 => bI (d_x4_gather N 26 s8 a1 a2) fun s10 v11 => bI (d_x7_counted N  s10 v11) fun s12 v13 => (if (w32 v13) = (-6) then some (s12, (-6)) else bV (d_x3_renew N  s12 a0 0 v13) fun s14 => d_x7_film_86L N  N s14 a0 v13 0) else some (s6, v7)))
set_option maxHeartbeats 4000000 in
set_option maxRecDepth 100000 in
theorem c_x7_film {sc : xS} {d : Nat} {R : Rs} (N : Nat)  (hd : 443 ≤ d)   (s : St) (a0 : Int) (a1 : Int) (a2 : Int) : d_x7_film N  s a0 a1 a2 = some R → vT sc d 87 0 [(0, .ref 0), (1, vi a0), (2, vi a1), (3, vi a2)] [] s (fun r => r = qI R) := by
  obtain ⟨d, rfl⟩ : ∃ d', d = d' + 1 := ⟨d - 1, by omega⟩
  unfold d_x7_film
  refine vLin 1 i87_0 rfl rfl ?_
  refine vCallI 4 [vi a0] [] [(0, vi a0)] i87_1 rfl (xlk1 l87_215) (Or.inr (Or.inl rfl)) m97 rfl rfl (Nat.le_of_ble_eq_true rfl) (Nat.le_of_ble_eq_true rfl) (Nat.le_of_ble_eq_true rfl) rfl rfl rfl (fun R1 => c_x7_isSheet N   (by omega) s a0) (fun s4 v5 => ?_)
  refine vZne 10 7 rfl i87_4 rfl rfl ?_ ?_
  · refine vLan 11 i87_10 rfl rfl ?_
    refine vLin 12 i87_11 rfl rfl ?_
    refine vLin 13 i87_12 rfl rfl ?_
    refine vKb 15 i87_13 (by decide) rfl ?_
    refine vCallI 18 [.ref 0, vi a1, vi a2, vi 16] [] [(0, .ref 0), (1, vi a1), (2, vi a2), (3, vi 16)] i87_15 rfl (xlk0 l87_196) (Or.inl rfl) m109 rfl rfl (Nat.le_of_ble_eq_true rfl) (Nat.le_of_ble_eq_true rfl) (Nat.le_of_ble_eq_true rfl) (xh0 sh_0 (by decide)) rfl rfl (fun R1 => c_x7_refusedRow N   (by omega) s4 a1 a2 16) (fun s6 v7 => ?_)
    refine vSi0 20 [(4, vi v7), (0, .ref 0), (1, vi a0), (2, vi a1), (3, vi a2)] i87_18 m87 (by decide) rfl rfl ?_
    refine vLi 22 i87_20 rfl rfl ?_
    refine vZeq 28 25 rfl i87_22 rfl rfl ?_ ?_
    · refine vLan 29 i87_28 rfl rfl ?_
      refine vGetC 32 i87_29 f87_47 sh_0 rfl rfl ?_
      refine vLan 33 i87_32 rfl rfl ?_
      refine vGetC 36 i87_33 f87_35 sh_0 rfl rfl ?_
      refine vLan 37 i87_36 rfl rfl ?_
      refine vGet 40 i87_37 f87_76 sh_0 rfl rfl ?_
      refine vCallV 43 [.ref 50, .ref 26, vi (s6 0 12)] [] [(0, .ref 50), (1, .ref 26), (2, vi (s6 0 12))] i87_40 rfl (xlk0 l87_166) (Or.inl rfl) m42 rfl rfl (Nat.le_of_ble_eq_true rfl) (Nat.le_of_ble_eq_true rfl) (Nat.le_of_ble_eq_true rfl) (xh0 sh_50 (by decide)) rfl rfl (fun R1 => c_x4_begin N 26 isTold_26 (by omega) s6 (s6 0 12)) (fun s8 => ?_)
      refine vLan 44 i87_43 rfl rfl ?_
      refine vLan 45 i87_44 rfl rfl ?_
      refine vGetC 48 i87_45 f87_47 sh_0 rfl rfl ?_
      refine vLin 49 i87_48 rfl rfl ?_
      refine vLin 50 i87_49 rfl rfl ?_
      refine vLan 51 i87_50 rfl rfl ?_
      refine vGetC 54 i87_51 f87_58 sh_0 rfl rfl ?_
      refine vCallI 57 [.ref 50, vi a1, vi a2, .ref 55] [.ref 0] [(0, .ref 50), (1, vi a1), (2, vi a2), (3, .ref 55)] i87_54 rfl (xlk0 l87_218) (Or.inl rfl) m47 rfl rfl (Nat.le_of_ble_eq_true rfl) (Nat.le_of_ble_eq_true rfl) (Nat.le_of_ble_eq_true rfl) (xh0 sh_50 (by decide)) rfl rfl (fun R1 => c_x4_gather N 26 isTold_26 (by omega) s8 a1 a2) (fun s10 v11 => ?_)
      refine vCallI 60 [.ref 0, vi v11] [] [(0, .ref 0), (1, vi v11)] i87_57 rfl (xlk0 l87_173) (Or.inl rfl) m82 rfl rfl (Nat.le_of_ble_eq_true rfl) (Nat.le_of_ble_eq_true rfl) (Nat.le_of_ble_eq_true rfl) (xh0 sh_0 (by decide)) rfl rfl (fun R1 => c_x7_counted N   (by omega) s10 v11) (fun s12 v13 => ?_)
      refine vSi0 62 [(5, vi v13), (4, vi v7), (0, .ref 0), (1, vi a0), (2, vi a1), (3, vi a2)] i87_60 m87 (by decide) rfl rfl ?_
      refine vLi 64 i87_62 rfl rfl ?_
      refine vKb 66 i87_64 (by decide) rfl ?_
      refine vCne 72 69 rfl (show w32 (-6) = (-6) from rfl) i87_66 rfl rfl ?_ ?_
      · refine vLan 73 i87_72 rfl rfl ?_
        refine vGetC 76 i87_73 f87_54 sh_0 rfl rfl ?_
        refine vLin 77 i87_76 rfl rfl ?_
        refine vK 78 i87_77 rfl ?_
        refine vLi 80 i87_78 rfl rfl ?_
        refine vCallV 83 [.ref 51, vi a0, vi 0, vi v13] [] [(0, .ref 51), (1, vi a0), (2, vi 0), (3, vi v13)] i87_80 rfl (xlk0 l87_222) (Or.inl rfl) m36 rfl rfl (Nat.le_of_ble_eq_true rfl) (Nat.le_of_ble_eq_true rfl) (Nat.le_of_ble_eq_true rfl) (xh0 sh_51 (by decide)) rfl rfl (fun R1 => c_x3_renew N   (by omega) s12 a0 0 v13) (fun s14 => ?_)
        refine vK 84 i87_83 rfl ?_
        refine vSi0 86 [(6, vi 0), (5, vi v13), (4, vi v7), (0, .ref 0), (1, vi a0), (2, vi a1), (3, vi a2)] i87_84 m87 (by decide) rfl rfl ?_
        exact fun hD => tLc [(0, .ref 0), (1, vi a0), (5, vi v13), (6, vi 0)] (xNdk [0, 1, 5, 6] rfl (by decide)) (xNdk [6, 5, 4, 0, 1, 2, 3] rfl (by decide)) ⟨rfl, rfl, rfl, rfl, trivial⟩ (c_x7_film_86L N  hd  N s14 a0 v13 0 hD)
      · refine vKb 71 i87_69 (by decide) rfl ?_
        exact vRi i87_71 m87 rfl
    · refine vLi 27 i87_25 rfl rfl ?_
      exact vRi i87_27 m87 rfl
  · refine vKb 9 i87_7 (by decide) rfl ?_
    exact vRi i87_9 m87 rfl
theorem i96_16 : xIns xg 96 16 = some (.iconst 1) := by decide +kernel
theorem i96_17 : xIns xg 96 17 = some (.goto 4) := by decide +kernel
theorem i96_21 : xIns xg 96 21 = some (.ireturn) := by decide +kernel
theorem m96 : (xMet xg 96).2.2 = (1, (some .boolean)) := by decide +kernel
theorem i96_0 : xIns xg 96 0 = some (.iload_n 0) := by decide +kernel
theorem i96_1 : xIns xg 96 1 = some (.ifCond .eq 15) := by decide +kernel
theorem i96_4 : xIns xg 96 4 = some (.iload_n 0) := by decide +kernel
theorem i96_5 : xIns xg 96 5 = some (.iconst 4) := by decide +kernel
theorem i96_6 : xIns xg 96 6 = some (.if_icmp .lt 14) := by decide +kernel
theorem i96_20 : xIns xg 96 20 = some (.iconst 0) := by decide +kernel
theorem i96_9 : xIns xg 96 9 = some (.iload_n 0) := by decide +kernel
theorem i96_10 : xIns xg 96 10 = some (.iconst 4) := by decide +kernel
theorem i96_11 : xIns xg 96 11 = some (.irem) := by decide +kernel
theorem i96_12 : xIns xg 96 12 = some (.iconst 1) := by decide +kernel
theorem i96_13 : xIns xg 96 13 = some (.if_icmp .gt 7) := by decide +kernel
def d_x7_isQuestion_16 (N : Nat)  (s : St)  : Option Rs :=
  some (s, 1)
set_option maxHeartbeats 4000000 in
set_option maxRecDepth 100000 in
theorem c_x7_isQuestion_16 {sc : xS} {d : Nat} {R : Rs} (N : Nat)  (hd : 0 ≤ d)   (s : St)  : d_x7_isQuestion_16 N  s  = some R → vT sc d 96 16 [] [] s (fun r => r = qI R) := by
  unfold d_x7_isQuestion_16
  refine vK 17 i96_16 rfl ?_
  refine vGo 21 i96_17 rfl ?_
  exact vRi i96_21 m96 (by decide)
def d_x7_isQuestion (N : Nat)  (s : St) (a0 : Int) : Option Rs :=
  (if (w32 a0) = 0 then d_x7_isQuestion_16 N  s  else (if (w32 a0) < 4 then some (s, 0) else if 4 = 0 then none else (if 1 < (w32 (Int.tmod (w32 a0) 4)) then some (s, 0) else d_x7_isQuestion_16 N  s )))
set_option maxHeartbeats 4000000 in
set_option maxRecDepth 100000 in
theorem c_x7_isQuestion {sc : xS} {d : Nat} {R : Rs} (N : Nat)  (hd : 0 ≤ d)   (s : St) (a0 : Int) : d_x7_isQuestion N  s a0 = some R → vT sc d 96 0 [(0, vi a0)] [] s (fun r => r = qI R) := by
  unfold d_x7_isQuestion
  refine vLin 1 i96_0 rfl rfl ?_
  refine vZeq 16 4 rfl i96_1 rfl rfl ?_ ?_
  · exact fun hD => tLc [] (xNdk [] rfl (by decide)) (xNdk [0] rfl (by decide)) trivial (c_x7_isQuestion_16 N  hd  s  hD)
  · refine vLin 5 i96_4 rfl rfl ?_
    refine vK 6 i96_5 rfl ?_
    refine vClt 20 9 rfl (show w32 4 = 4 from rfl) i96_6 rfl rfl ?_ ?_
    · refine vK 21 i96_20 rfl ?_
      exact vRi i96_21 m96 (by decide)
    · refine vLin 10 i96_9 rfl rfl ?_
      refine vK 11 i96_10 rfl ?_
      refine vIrem 12 rfl (show w32 4 = 4 from rfl) i96_11 rfl ?_
      refine vK 13 i96_12 rfl ?_
      refine vCgt 20 16 rfl (show w32 1 = 1 from rfl) i96_13 rfl rfl ?_ ?_
      · refine vK 21 i96_20 rfl ?_
        exact vRi i96_21 m96 (by decide)
      · exact fun hD => tLc [] (xNdk [] rfl (by decide)) (xNdk [0] rfl (by decide)) trivial (c_x7_isQuestion_16 N  hd  s  hD)
theorem f99_47 : xFld xg 99 47 = some (6, 5) := by decide +kernel
theorem f99_39 : xFld xg 99 39 = some (6, 4) := by decide +kernel
theorem f99_76 : xFld xg 99 76 = some (6, 12) := by decide +kernel
theorem f99_54 : xFld xg 99 54 = some (6, 6) := by decide +kernel
theorem f99_236 : xFld xg 99 236 = some (2, 1) := by decide +kernel
theorem f99_179 : xFld xg 99 179 = some (3, 4) := by decide +kernel
theorem i99_17 : xIns xg 99 17 = some (.iload_n 3) := by decide +kernel
theorem i99_18 : xIns xg 99 18 = some (.aload_n 0) := by decide +kernel
theorem i99_19 : xIns xg 99 19 = some (.getfield 54) := by decide +kernel
theorem i99_22 : xIns xg 99 22 = some (.getfield 236) := by decide +kernel
theorem i99_25 : xIns xg 99 25 = some (.iload_n 1) := by decide +kernel
theorem i99_26 : xIns xg 99 26 = some (.iaload) := by decide +kernel
theorem i99_27 : xIns xg 99 27 = some (.if_icmp .ge 46) := by decide +kernel
theorem i99_73 : xIns xg 99 73 = some (.iconst 1) := by decide +kernel
theorem i99_74 : xIns xg 99 74 = some (.ireturn) := by decide +kernel
theorem m99 : (xMet xg 99).2.2 = (4, (some .boolean)) := by decide +kernel
theorem i99_30 : xIns xg 99 30 = some (.aload_n 0) := by decide +kernel
theorem i99_31 : xIns xg 99 31 = some (.getfield 47) := by decide +kernel
theorem i99_34 : xIns xg 99 34 = some (.iload_n 2) := by decide +kernel
theorem i99_35 : xIns xg 99 35 = some (.iload_n 3) := by decide +kernel
theorem i99_36 : xIns xg 99 36 = some (.invokevirtual 176) := by decide +kernel
theorem i99_39 : xIns xg 99 39 = some (.iconst 1) := by decide +kernel
theorem i99_40 : xIns xg 99 40 = some (.if_icmp .eq 5) := by decide +kernel
theorem i99_45 : xIns xg 99 45 = some (.aload_n 0) := by decide +kernel
theorem i99_46 : xIns xg 99 46 = some (.getfield 47) := by decide +kernel
theorem i99_49 : xIns xg 99 49 = some (.getfield 179) := by decide +kernel
theorem i99_52 : xIns xg 99 52 = some (.aload_n 0) := by decide +kernel
theorem i99_53 : xIns xg 99 53 = some (.getfield 54) := by decide +kernel
theorem i99_56 : xIns xg 99 56 = some (.iload_n 1) := by decide +kernel
theorem i99_57 : xIns xg 99 57 = some (.iload_n 3) := by decide +kernel
theorem i99_58 : xIns xg 99 58 = some (.invokevirtual 258) := by decide +kernel
theorem i99_61 : xIns xg 99 61 = some (.lcmp) := by decide +kernel
theorem i99_62 : xIns xg 99 62 = some (.ifCond .eq 5) := by decide +kernel
theorem i99_67 : xIns xg 99 67 = some (.iinc 3 1) := by decide +kernel
theorem i99_70 : xIns xg 99 70 = some (.goto (-53)) := by decide +kernel
theorem i99_65 : xIns xg 99 65 = some (.iconst 0) := by decide +kernel
theorem i99_66 : xIns xg 99 66 = some (.ireturn) := by decide +kernel
theorem i99_43 : xIns xg 99 43 = some (.iconst 0) := by decide +kernel
theorem i99_44 : xIns xg 99 44 = some (.ireturn) := by decide +kernel
theorem i99_0 : xIns xg 99 0 = some (.aload_n 0) := by decide +kernel
theorem i99_1 : xIns xg 99 1 = some (.getfield 47) := by decide +kernel
theorem i99_4 : xIns xg 99 4 = some (.aload_n 0) := by decide +kernel
theorem i99_5 : xIns xg 99 5 = some (.getfield 39) := by decide +kernel
theorem i99_8 : xIns xg 99 8 = some (.aload_n 0) := by decide +kernel
theorem i99_9 : xIns xg 99 9 = some (.getfield 76) := by decide +kernel
theorem i99_12 : xIns xg 99 12 = some (.invokevirtual 166) := by decide +kernel
theorem i99_15 : xIns xg 99 15 = some (.iconst 0) := by decide +kernel
theorem i99_16 : xIns xg 99 16 = some (.istore_n 3) := by decide +kernel
def d_x7_isToldBy_17 (N : Nat)  (k17 : St → Int → Int → Int → Option Rs) (s : St) (x1 : Int) (x2 : Int) (x3 : Int) : Option Rs :=
  if 0 ≤ (w32 x1) ∧ (w32 x1) < ((4 : Nat) : Int) then (if (w32 x3) < (w32 (s 53 (Int.toNat (w32 x1)))) then bI (d_x4_outcome N 38 s x2 x3) fun s1 v2 => (if (w32 v2) = 1 then bI (d_x3_read N  s1 x1 x3) fun s3 v4 => (if (w64 (s1 50 4)) = (w64 v4) then bd (x3 + 1) fun v5 => k17 s3 x1 x2 v5 else some (s3, 0)) else some (s1, 0)) else some (s, 1)) else none
def d_x7_isToldBy_17L (N : Nat)  : Nat → St → Int → Int → Int → Option Rs
  | 0 => fun _ _ _ _ => none
  | n + 1 => d_x7_isToldBy_17 N  (d_x7_isToldBy_17L N  n)
set_option maxHeartbeats 4000000 in
set_option maxRecDepth 100000 in
theorem c_x7_isToldBy_17 {sc : xS} {d : Nat} {R : Rs} (N : Nat)  (hd : 442 ≤ d)   (k17 : St → Int → Int → Int → Option Rs) (hk17 : ∀ (s : St) (x1 : Int) (x2 : Int) (x3 : Int), k17 s x1 x2 x3 = some R → vT sc d 99 17 [(0, .ref 0), (1, vi x1), (2, vi x2), (3, vi x3)] [] s (fun r => r = qI R)) (s : St) (x1 : Int) (x2 : Int) (x3 : Int) : d_x7_isToldBy_17 N  k17 s x1 x2 x3 = some R → vT sc d 99 17 [(0, .ref 0), (1, vi x1), (2, vi x2), (3, vi x3)] [] s (fun r => r = qI R) := by
  obtain ⟨d, rfl⟩ : ∃ d', d = d' + 1 := ⟨d - 1, by omega⟩
  unfold d_x7_isToldBy_17
  refine vLin 18 i99_17 rfl rfl ?_
  refine vLan 19 i99_18 rfl rfl ?_
  refine vGetC 22 i99_19 f99_54 sh_0 rfl rfl ?_
  refine vGetC 25 i99_22 f99_236 sh_51 rfl rfl ?_
  refine vLin 26 i99_25 rfl rfl ?_
  refine vIal 27 rfl i99_26 sh_53 rfl ?_
  refine vCge 73 30 rfl rfl i99_27 rfl rfl ?_ ?_
  · refine vK 74 i99_73 rfl ?_
    exact vRi i99_74 m99 (by decide)
  · refine vLan 31 i99_30 rfl rfl ?_
    refine vGetC 34 i99_31 f99_47 sh_0 rfl rfl ?_
    refine vLin 35 i99_34 rfl rfl ?_
    refine vLin 36 i99_35 rfl rfl ?_
    refine vCallI 39 [.ref 50, vi x2, vi x3] [] [(0, .ref 50), (1, vi x2), (2, vi x3)] i99_36 rfl (xlk0 l99_176) (Or.inl rfl) m51 rfl rfl (Nat.le_of_ble_eq_true rfl) (Nat.le_of_ble_eq_true rfl) (Nat.le_of_ble_eq_true rfl) (xh0 sh_50 (by decide)) rfl rfl (fun R1 => c_x4_outcome N 38 isTold_38 (by omega) s x2 x3) (fun s1 v2 => ?_)
    refine vK 40 i99_39 rfl ?_
    refine vCeq 45 43 rfl (show w32 1 = 1 from rfl) i99_40 rfl rfl ?_ ?_
    · refine vLan 46 i99_45 rfl rfl ?_
      refine vGetC 49 i99_46 f99_47 sh_0 rfl rfl ?_
      refine vGetL 52 i99_49 f99_179 sh_50 rfl rfl ?_
      refine vLan 53 i99_52 rfl rfl ?_
      refine vGetC 56 i99_53 f99_54 sh_0 rfl rfl ?_
      refine vLin 57 i99_56 rfl rfl ?_
      refine vLin 58 i99_57 rfl rfl ?_
      refine vCallL 61 [.ref 51, vi x1, vi x3] [vl (s1 50 4)] [(0, .ref 51), (1, vi x1), (2, vi x3)] i99_58 rfl (xlk0 l99_258) (Or.inl rfl) m35 rfl rfl (Nat.le_of_ble_eq_true rfl) (Nat.le_of_ble_eq_true rfl) (Nat.le_of_ble_eq_true rfl) (xh0 sh_51 (by decide)) rfl rfl (fun R1 => c_x3_read N   (by omega) s1 x1 x3) (fun s3 v4 => ?_)
      refine vLceq 67 62 65 rfl rfl i99_61 rfl i99_62 rfl rfl ?_ ?_
      · refine vInc 70 (fun v5 => [(3, vi v5), (0, .ref 0), (1, vi x1), (2, vi x2)]) i99_67 m99 (by decide) rfl (fun _ => rfl) rfl (fun v5 => ?_)
        refine vGo 17 i99_70 rfl ?_
        exact fun hD => tLc [(0, .ref 0), (1, vi x1), (2, vi x2), (3, vi v5)] (xNdk [0, 1, 2, 3] rfl (by decide)) (xNdk [3, 0, 1, 2] rfl (by decide)) ⟨rfl, rfl, rfl, rfl, trivial⟩ (hk17 s3 x1 x2 v5 hD)
      · refine vK 66 i99_65 rfl ?_
        exact vRi i99_66 m99 (by decide)
    · refine vK 44 i99_43 rfl ?_
      exact vRi i99_44 m99 (by decide)
theorem c_x7_isToldBy_17L {sc : xS} {d : Nat} {R : Rs} (N : Nat)  (hd : 442 ≤ d)   : ∀ (n : Nat) (s : St) (x1 : Int) (x2 : Int) (x3 : Int), d_x7_isToldBy_17L N  n s x1 x2 x3 = some R → vT sc d 99 17 [(0, .ref 0), (1, vi x1), (2, vi x2), (3, vi x3)] [] s (fun r => r = qI R) := by
  intro n
  induction n with
  | zero => intro s x1 x2 x3 hD; cases hD
  | succ n ih => intro s x1 x2 x3 hD; exact c_x7_isToldBy_17 N  hd  _ ih s x1 x2 x3 hD
def d_x7_isToldBy (N : Nat)  (s : St) (a0 : Int) (a1 : Int) : Option Rs :=
  bV (d_x4_begin N 38 s (s 0 12)) fun s6 => d_x7_isToldBy_17L N  N s6 a0 a1 0
set_option maxHeartbeats 4000000 in
set_option maxRecDepth 100000 in
theorem c_x7_isToldBy {sc : xS} {d : Nat} {R : Rs} (N : Nat)  (hd : 442 ≤ d)   (s : St) (a0 : Int) (a1 : Int) : d_x7_isToldBy N  s a0 a1 = some R → vT sc d 99 0 [(0, .ref 0), (1, vi a0), (2, vi a1)] [] s (fun r => r = qI R) := by
  obtain ⟨d, rfl⟩ : ∃ d', d = d' + 1 := ⟨d - 1, by omega⟩
  unfold d_x7_isToldBy
  refine vLan 1 i99_0 rfl rfl ?_
  refine vGetC 4 i99_1 f99_47 sh_0 rfl rfl ?_
  refine vLan 5 i99_4 rfl rfl ?_
  refine vGetC 8 i99_5 f99_39 sh_0 rfl rfl ?_
  refine vLan 9 i99_8 rfl rfl ?_
  refine vGet 12 i99_9 f99_76 sh_0 rfl rfl ?_
  refine vCallV 15 [.ref 50, .ref 38, vi (s 0 12)] [] [(0, .ref 50), (1, .ref 38), (2, vi (s 0 12))] i99_12 rfl (xlk0 l99_166) (Or.inl rfl) m42 rfl rfl (Nat.le_of_ble_eq_true rfl) (Nat.le_of_ble_eq_true rfl) (Nat.le_of_ble_eq_true rfl) (xh0 sh_50 (by decide)) rfl rfl (fun R1 => c_x4_begin N 38 isTold_38 (by omega) s (s 0 12)) (fun s6 => ?_)
  refine vK 16 i99_15 rfl ?_
  refine vSin0 17 [(3, vi 0), (0, .ref 0), (1, vi a0), (2, vi a1)] i99_16 m99 (by decide) rfl rfl ?_
  exact fun hD => tLc [(0, .ref 0), (1, vi a0), (2, vi a1), (3, vi 0)] (xNdk [0, 1, 2, 3] rfl (by decide)) (xNdk [3, 0, 1, 2] rfl (by decide)) ⟨rfl, rfl, rfl, rfl, trivial⟩ (c_x7_isToldBy_17L N  hd  N s6 a0 a1 0 hD)
theorem f114_28 : xFld xg 114 28 = some (6, 2) := by decide +kernel
theorem f114_140 : xFld xg 114 140 = some (4, 3) := by decide +kernel
theorem f114_115 : xFld xg 114 115 = some (4, 1) := by decide +kernel
theorem f114_39 : xFld xg 114 39 = some (6, 4) := by decide +kernel
theorem i114_101 : xIns xg 114 101 = some (.iinc 9 1) := by decide +kernel
theorem m114 : (xMet xg 114).2.2 = (10, (some .int)) := by decide +kernel
theorem i114_104 : xIns xg 114 104 = some (.goto (-75)) := by decide +kernel
theorem i114_29 : xIns xg 114 29 = some (.iload 9) := by decide +kernel
theorem i114_31 : xIns xg 114 31 = some (.bipush 20) := by decide +kernel
theorem i114_33 : xIns xg 114 33 = some (.if_icmp .gt 74) := by decide +kernel
theorem i114_107 : xIns xg 114 107 = some (.aload_n 0) := by decide +kernel
theorem i114_108 : xIns xg 114 108 = some (.getfield 28) := by decide +kernel
theorem i114_111 : xIns xg 114 111 = some (.getfield 140) := by decide +kernel
theorem i114_114 : xIns xg 114 114 = some (.iload 5) := by decide +kernel
theorem i114_116 : xIns xg 114 116 = some (.iload 6) := by decide +kernel
theorem i114_118 : xIns xg 114 118 = some (.iastore) := by decide +kernel
theorem i114_119 : xIns xg 114 119 = some (.iload 4) := by decide +kernel
theorem i114_121 : xIns xg 114 121 = some (.ifCond .eq 8) := by decide +kernel
theorem i114_129 : xIns xg 114 129 = some (.iload 7) := by decide +kernel
theorem i114_131 : xIns xg 114 131 = some (.ireturn) := by decide +kernel
theorem i114_124 : xIns xg 114 124 = some (.iload 8) := by decide +kernel
theorem i114_126 : xIns xg 114 126 = some (.goto 5) := by decide +kernel
theorem i114_36 : xIns xg 114 36 = some (.aload_n 0) := by decide +kernel
theorem i114_37 : xIns xg 114 37 = some (.getfield 28) := by decide +kernel
theorem i114_40 : xIns xg 114 40 = some (.getfield 115) := by decide +kernel
theorem i114_43 : xIns xg 114 43 = some (.iload 5) := by decide +kernel
theorem i114_45 : xIns xg 114 45 = some (.iaload) := by decide +kernel
theorem i114_46 : xIns xg 114 46 = some (.iload 9) := by decide +kernel
theorem i114_48 : xIns xg 114 48 = some (.invokestatic 146) := by decide +kernel
theorem i114_51 : xIns xg 114 51 = some (.ifCond .ne 6) := by decide +kernel
theorem i114_57 : xIns xg 114 57 = some (.aload_n 0) := by decide +kernel
theorem i114_58 : xIns xg 114 58 = some (.getfield 28) := by decide +kernel
theorem i114_61 : xIns xg 114 61 = some (.getfield 140) := by decide +kernel
theorem i114_64 : xIns xg 114 64 = some (.iload 5) := by decide +kernel
theorem i114_66 : xIns xg 114 66 = some (.iload 9) := by decide +kernel
theorem i114_68 : xIns xg 114 68 = some (.iastore) := by decide +kernel
theorem i114_69 : xIns xg 114 69 = some (.aload_n 0) := by decide +kernel
theorem i114_70 : xIns xg 114 70 = some (.getfield 39) := by decide +kernel
theorem i114_73 : xIns xg 114 73 = some (.invokevirtual 101) := by decide +kernel
theorem i114_76 : xIns xg 114 76 = some (.aload_n 0) := by decide +kernel
theorem i114_77 : xIns xg 114 77 = some (.iload_n 1) := by decide +kernel
theorem i114_78 : xIns xg 114 78 = some (.iload_n 2) := by decide +kernel
theorem i114_79 : xIns xg 114 79 = some (.invokevirtual 275) := by decide +kernel
theorem i114_82 : xIns xg 114 82 = some (.ifCond .ne 6) := by decide +kernel
theorem i114_88 : xIns xg 114 88 = some (.iinc 7 1) := by decide +kernel
theorem i114_91 : xIns xg 114 91 = some (.iload 8) := by decide +kernel
theorem i114_93 : xIns xg 114 93 = some (.iconst (-1)) := by decide +kernel
theorem i114_94 : xIns xg 114 94 = some (.if_icmp .ne 7) := by decide +kernel
theorem i114_97 : xIns xg 114 97 = some (.iload 9) := by decide +kernel
theorem i114_99 : xIns xg 114 99 = some (.istore 8) := by decide +kernel
theorem i114_85 : xIns xg 114 85 = some (.goto 16) := by decide +kernel
theorem i114_54 : xIns xg 114 54 = some (.goto 47) := by decide +kernel
theorem i114_0 : xIns xg 114 0 = some (.iload_n 2) := by decide +kernel
theorem i114_1 : xIns xg 114 1 = some (.bipush 24) := by decide +kernel
theorem i114_3 : xIns xg 114 3 = some (.imul) := by decide +kernel
theorem i114_4 : xIns xg 114 4 = some (.iload_n 3) := by decide +kernel
theorem i114_5 : xIns xg 114 5 = some (.iadd) := by decide +kernel
theorem i114_6 : xIns xg 114 6 = some (.istore 5) := by decide +kernel
theorem i114_8 : xIns xg 114 8 = some (.aload_n 0) := by decide +kernel
theorem i114_9 : xIns xg 114 9 = some (.getfield 28) := by decide +kernel
theorem i114_12 : xIns xg 114 12 = some (.getfield 140) := by decide +kernel
theorem i114_15 : xIns xg 114 15 = some (.iload 5) := by decide +kernel
theorem i114_17 : xIns xg 114 17 = some (.iaload) := by decide +kernel
theorem i114_18 : xIns xg 114 18 = some (.istore 6) := by decide +kernel
theorem i114_20 : xIns xg 114 20 = some (.iconst 0) := by decide +kernel
theorem i114_21 : xIns xg 114 21 = some (.istore 7) := by decide +kernel
theorem i114_23 : xIns xg 114 23 = some (.iconst (-1)) := by decide +kernel
theorem i114_24 : xIns xg 114 24 = some (.istore 8) := by decide +kernel
theorem i114_26 : xIns xg 114 26 = some (.iconst 0) := by decide +kernel
theorem i114_27 : xIns xg 114 27 = some (.istore 9) := by decide +kernel
def d_x7_tellingNumbers_101 (N : Nat) (k29 : St → Int → Int → Int → Int → Int → Int → Int → Int → Option Rs) (s : St) (x1 : Int) (x2 : Int) (x4 : Int) (x5 : Int) (x6 : Int) (x7 : Int) (x8 : Int) (x9 : Int) : Option Rs :=
  bd (x9 + 1) fun v1 => k29 s x1 x2 x4 x5 x6 x7 x8 v1
set_option maxHeartbeats 4000000 in
set_option maxRecDepth 100000 in
theorem c_x7_tellingNumbers_101 {sc : xS} {d : Nat} {R : Rs} (N : Nat)  (hd : 443 ≤ d) (k29 : St → Int → Int → Int → Int → Int → Int → Int → Int → Option Rs) (hk29 : ∀ (s : St) (x1 : Int) (x2 : Int) (x4 : Int) (x5 : Int) (x6 : Int) (x7 : Int) (x8 : Int) (x9 : Int), k29 s x1 x2 x4 x5 x6 x7 x8 x9 = some R → vT sc d 114 29 [(0, .ref 0), (1, vi x1), (2, vi x2), (4, vi x4), (5, vi x5), (6, vi x6), (7, vi x7), (8, vi x8), (9, vi x9)] [] s (fun r => r = qI R))  (s : St) (x1 : Int) (x2 : Int) (x4 : Int) (x5 : Int) (x6 : Int) (x7 : Int) (x8 : Int) (x9 : Int) : d_x7_tellingNumbers_101 N k29 s x1 x2 x4 x5 x6 x7 x8 x9 = some R → vT sc d 114 101 [(0, .ref 0), (1, vi x1), (2, vi x2), (4, vi x4), (5, vi x5), (6, vi x6), (7, vi x7), (8, vi x8), (9, vi x9)] [] s (fun r => r = qI R) := by
  obtain ⟨d, rfl⟩ : ∃ d', d = d' + 1 := ⟨d - 1, by omega⟩
  unfold d_x7_tellingNumbers_101
  refine vInc 104 (fun v1 => [(9, vi v1), (0, .ref 0), (1, vi x1), (2, vi x2), (4, vi x4), (5, vi x5), (6, vi x6), (7, vi x7), (8, vi x8)]) i114_101 m114 (by decide) rfl (fun _ => rfl) rfl (fun v1 => ?_)
  refine vGo 29 i114_104 rfl ?_
  exact fun hD => tLc [(0, .ref 0), (1, vi x1), (2, vi x2), (4, vi x4), (5, vi x5), (6, vi x6), (7, vi x7), (8, vi x8), (9, vi v1)] (xNdk [0, 1, 2, 4, 5, 6, 7, 8, 9] rfl (by decide)) (xNdk [9, 0, 1, 2, 4, 5, 6, 7, 8] rfl (by decide)) ⟨rfl, rfl, rfl, rfl, rfl, rfl, rfl, rfl, rfl, trivial⟩ (hk29 s x1 x2 x4 x5 x6 x7 x8 v1 hD)
def d_x7_tellingNumbers_29 (N : Nat)  (k29 : St → Int → Int → Int → Int → Int → Int → Int → Int → Option Rs) (s : St) (x1 : Int) (x2 : Int) (x4 : Int) (x5 : Int) (x6 : Int) (x7 : Int) (x8 : Int) (x9 : Int) : Option Rs :=
  (if 20 < (w32 x9) then if 0 ≤ (w32 x5) ∧ (w32 x5) < ((192 : Nat) : Int) then bd (up s 21 (Int.toNat (w32 x5)) x6) fun s2 => (if (w32 x4) = 0 then some (s2, x7) else some (s2, x8)) else none else if 0 ≤ (w32 x5) ∧ (w32 x5) < ((192 : Nat) : Int) then bI (d_x0_allows N  s (s 19 (Int.toNat (w32 x5))) x9) fun s3 v4 => (if (w32 v4) = 0 then d_x7_tellingNumbers_101 N k29 s3 x1 x2 x4 x5 x6 x7 x8 x9 else if 0 ≤ (w32 x5) ∧ (w32 x5) < ((192 : Nat) : Int) then bd (up s3 21 (Int.toNat (w32 x5)) x9) fun s5 => bV (d_x6_untell N 38 s5 ) fun s6 => bI (d_x7_isToldBy N  s6 x1 x2) fun s8 v9 => (if (w32 v9) = 0 then d_x7_tellingNumbers_101 N k29 s8 x1 x2 x4 x5 x6 x7 x8 x9 else bd (x7 + 1) fun v10 => (if (w32 x8) = (-1) then d_x7_tellingNumbers_101 N k29 s8 x1 x2 x4 x5 x6 v10 x9 x9 else d_x7_tellingNumbers_101 N k29 s8 x1 x2 x4 x5 x6 v10 x8 x9)) else none) else none)
def d_x7_tellingNumbers_29L (N : Nat)  : Nat → St → Int → Int → Int → Int → Int → Int → Int → Int → Option Rs
  | 0 => fun _ _ _ _ _ _ _ _ _ => none
  | n + 1 => d_x7_tellingNumbers_29 N  (d_x7_tellingNumbers_29L N  n)
set_option maxHeartbeats 4000000 in
set_option maxRecDepth 100000 in
theorem c_x7_tellingNumbers_29 {sc : xS} {d : Nat} {R : Rs} (N : Nat)  (hd : 443 ≤ d)   (k29 : St → Int → Int → Int → Int → Int → Int → Int → Int → Option Rs) (hk29 : ∀ (s : St) (x1 : Int) (x2 : Int) (x4 : Int) (x5 : Int) (x6 : Int) (x7 : Int) (x8 : Int) (x9 : Int), k29 s x1 x2 x4 x5 x6 x7 x8 x9 = some R → vT sc d 114 29 [(0, .ref 0), (1, vi x1), (2, vi x2), (4, vi x4), (5, vi x5), (6, vi x6), (7, vi x7), (8, vi x8), (9, vi x9)] [] s (fun r => r = qI R)) (s : St) (x1 : Int) (x2 : Int) (x4 : Int) (x5 : Int) (x6 : Int) (x7 : Int) (x8 : Int) (x9 : Int) : d_x7_tellingNumbers_29 N  k29 s x1 x2 x4 x5 x6 x7 x8 x9 = some R → vT sc d 114 29 [(0, .ref 0), (1, vi x1), (2, vi x2), (4, vi x4), (5, vi x5), (6, vi x6), (7, vi x7), (8, vi x8), (9, vi x9)] [] s (fun r => r = qI R) := by
  obtain ⟨d, rfl⟩ : ∃ d', d = d' + 1 := ⟨d - 1, by omega⟩
  unfold d_x7_tellingNumbers_29
  refine vLi 31 i114_29 rfl rfl ?_
  refine vKb 33 i114_31 (by decide) rfl ?_
  refine vCgt 107 36 rfl (show w32 20 = 20 from rfl) i114_33 rfl rfl ?_ ?_
  · refine vLan 108 i114_107 rfl rfl ?_
    refine vGetC 111 i114_108 f114_28 sh_0 rfl rfl ?_
    refine vGetC 114 i114_111 f114_140 sh_17 rfl rfl ?_
    refine vLi 116 i114_114 rfl rfl ?_
    refine vLi 118 i114_116 rfl rfl ?_
    refine vIas 119 rfl i114_118 sh_21 rfl (fun s2 => ?_)
    refine vLi 121 i114_119 rfl rfl ?_
    refine vZeq 129 124 rfl i114_121 rfl rfl ?_ ?_
    · refine vLi 131 i114_129 rfl rfl ?_
      exact vRi i114_131 m114 rfl
    · refine vLi 126 i114_124 rfl rfl ?_
      refine vGo 131 i114_126 rfl ?_
      exact vRi i114_131 m114 rfl
  · refine vLan 37 i114_36 rfl rfl ?_
    refine vGetC 40 i114_37 f114_28 sh_0 rfl rfl ?_
    refine vGetC 43 i114_40 f114_115 sh_17 rfl rfl ?_
    refine vLi 45 i114_43 rfl rfl ?_
    refine vIal 46 rfl i114_45 sh_19 rfl ?_
    refine vLi 48 i114_46 rfl rfl ?_
    refine vCallI 51 [vi (s 19 (Int.toNat (w32 x5))), vi x9] [] [(0, vi (s 19 (Int.toNat (w32 x5)))), (1, vi x9)] i114_48 rfl (xlk1 l114_146) (Or.inr (Or.inl rfl)) m1 rfl rfl (Nat.le_of_ble_eq_true rfl) (Nat.le_of_ble_eq_true rfl) (Nat.le_of_ble_eq_true rfl) rfl rfl rfl (fun R1 => c_x0_allows N   (by omega) s (s 19 (Int.toNat (w32 x5))) x9) (fun s3 v4 => ?_)
    refine vZne 57 54 rfl i114_51 rfl rfl ?_ ?_
    · refine vLan 58 i114_57 rfl rfl ?_
      refine vGetC 61 i114_58 f114_28 sh_0 rfl rfl ?_
      refine vGetC 64 i114_61 f114_140 sh_17 rfl rfl ?_
      refine vLi 66 i114_64 rfl rfl ?_
      refine vLi 68 i114_66 rfl rfl ?_
      refine vIas 69 rfl i114_68 sh_21 rfl (fun s5 => ?_)
      refine vLan 70 i114_69 rfl rfl ?_
      refine vGetC 73 i114_70 f114_39 sh_0 rfl rfl ?_
      refine vCallV 76 [.ref 38] [] [(0, .ref 38)] i114_73 rfl (xlk0 l114_101) (Or.inl rfl) m77 rfl rfl (Nat.le_of_ble_eq_true rfl) (Nat.le_of_ble_eq_true rfl) (Nat.le_of_ble_eq_true rfl) (xh0 sh_38 (by decide)) rfl rfl (fun R1 => c_x6_untell N 38 isTold_38 (by omega) s5 ) (fun s6 => ?_)
      refine vLan 77 i114_76 rfl rfl ?_
      refine vLin 78 i114_77 rfl rfl ?_
      refine vLin 79 i114_78 rfl rfl ?_
      refine vCallI 82 [.ref 0, vi x1, vi x2] [] [(0, .ref 0), (1, vi x1), (2, vi x2)] i114_79 rfl (xlk0 l114_275) (Or.inl rfl) m99 rfl rfl (Nat.le_of_ble_eq_true rfl) (Nat.le_of_ble_eq_true rfl) (Nat.le_of_ble_eq_true rfl) (xh0 sh_0 (by decide)) rfl rfl (fun R1 => c_x7_isToldBy N   (by omega) s6 x1 x2) (fun s8 v9 => ?_)
      refine vZne 88 85 rfl i114_82 rfl rfl ?_ ?_
      · refine vInc 91 (fun v10 => [(7, vi v10), (0, .ref 0), (1, vi x1), (2, vi x2), (4, vi x4), (5, vi x5), (6, vi x6), (8, vi x8), (9, vi x9)]) i114_88 m114 (by decide) rfl (fun _ => rfl) rfl (fun v10 => ?_)
        refine vLi 93 i114_91 rfl rfl ?_
        refine vK 94 i114_93 rfl ?_
        refine vCne 101 97 rfl (show w32 (-1) = (-1) from rfl) i114_94 rfl rfl ?_ ?_
        · exact fun hD => tLc [(0, .ref 0), (1, vi x1), (2, vi x2), (4, vi x4), (5, vi x5), (6, vi x6), (7, vi v10), (8, vi x8), (9, vi x9)] (xNdk [0, 1, 2, 4, 5, 6, 7, 8, 9] rfl (by decide)) (xNdk [7, 0, 1, 2, 4, 5, 6, 8, 9] rfl (by decide)) ⟨rfl, rfl, rfl, rfl, rfl, rfl, rfl, rfl, rfl, trivial⟩ (c_x7_tellingNumbers_101 N  hd k29 hk29 s8 x1 x2 x4 x5 x6 v10 x8 x9 hD)
        · refine vLi 99 i114_97 rfl rfl ?_
          refine vSi0 101 [(8, vi x9), (7, vi v10), (0, .ref 0), (1, vi x1), (2, vi x2), (4, vi x4), (5, vi x5), (6, vi x6), (9, vi x9)] i114_99 m114 (by decide) rfl rfl ?_
          exact fun hD => tLc [(0, .ref 0), (1, vi x1), (2, vi x2), (4, vi x4), (5, vi x5), (6, vi x6), (7, vi v10), (8, vi x9), (9, vi x9)] (xNdk [0, 1, 2, 4, 5, 6, 7, 8, 9] rfl (by decide)) (xNdk [8, 7, 0, 1, 2, 4, 5, 6, 9] rfl (by decide)) ⟨rfl, rfl, rfl, rfl, rfl, rfl, rfl, rfl, rfl, trivial⟩ (c_x7_tellingNumbers_101 N  hd k29 hk29 s8 x1 x2 x4 x5 x6 v10 x9 x9 hD)
      · refine vGo 101 i114_85 rfl ?_
        exact fun hD => c_x7_tellingNumbers_101 N  hd k29 hk29 s8 x1 x2 x4 x5 x6 x7 x8 x9 hD
    · refine vGo 101 i114_54 rfl ?_
      exact fun hD => c_x7_tellingNumbers_101 N  hd k29 hk29 s3 x1 x2 x4 x5 x6 x7 x8 x9 hD
theorem c_x7_tellingNumbers_29L {sc : xS} {d : Nat} {R : Rs} (N : Nat)  (hd : 443 ≤ d)   : ∀ (n : Nat) (s : St) (x1 : Int) (x2 : Int) (x4 : Int) (x5 : Int) (x6 : Int) (x7 : Int) (x8 : Int) (x9 : Int), d_x7_tellingNumbers_29L N  n s x1 x2 x4 x5 x6 x7 x8 x9 = some R → vT sc d 114 29 [(0, .ref 0), (1, vi x1), (2, vi x2), (4, vi x4), (5, vi x5), (6, vi x6), (7, vi x7), (8, vi x8), (9, vi x9)] [] s (fun r => r = qI R) := by
  intro n
  induction n with
  | zero => intro s x1 x2 x4 x5 x6 x7 x8 x9 hD; cases hD
  | succ n ih => intro s x1 x2 x4 x5 x6 x7 x8 x9 hD; exact c_x7_tellingNumbers_29 N  hd  _ ih s x1 x2 x4 x5 x6 x7 x8 x9 hD
def d_x7_tellingNumbers (N : Nat)  (s : St) (a0 : Int) (a1 : Int) (a2 : Int) (a3 : Int) : Option Rs :=
  bd ((a1 * 24) + a2) fun v11 => if 0 ≤ (w32 v11) ∧ (w32 v11) < ((192 : Nat) : Int) then bd (s 21 (Int.toNat (w32 v11))) fun v12 => d_x7_tellingNumbers_29L N  N s a0 a1 a3 v11 v12 0 (-1) 0 else none
set_option maxHeartbeats 4000000 in
set_option maxRecDepth 100000 in
theorem c_x7_tellingNumbers {sc : xS} {d : Nat} {R : Rs} (N : Nat)  (hd : 443 ≤ d)   (s : St) (a0 : Int) (a1 : Int) (a2 : Int) (a3 : Int) : d_x7_tellingNumbers N  s a0 a1 a2 a3 = some R → vT sc d 114 0 [(0, .ref 0), (1, vi a0), (2, vi a1), (3, vi a2), (4, vi a3)] [] s (fun r => r = qI R) := by
  obtain ⟨d, rfl⟩ : ∃ d', d = d' + 1 := ⟨d - 1, by omega⟩
  unfold d_x7_tellingNumbers
  refine vLin 1 i114_0 rfl rfl ?_
  refine vKb 3 i114_1 (by decide) rfl ?_
  refine vImul 4 i114_3 rfl ?_
  refine vLin 5 i114_4 rfl rfl ?_
  refine vIadd 6 i114_5 rfl ?_
  refine vSi 8 (fun v11 => [(5, vi v11), (0, .ref 0), (1, vi a0), (2, vi a1), (3, vi a2), (4, vi a3)]) i114_6 m114 (by decide) (fun v11 => (rfl : xst1 [(0, .ref 0), (1, vi a0), (2, vi a1), (3, vi a2), (4, vi a3)] 5 (vi v11) = [(5, vi v11), (0, .ref 0), (1, vi a0), (2, vi a1), (3, vi a2), (4, vi a3)])) rfl (fun v11 => ?_)
  refine vLan 9 i114_8 rfl rfl ?_
  refine vGetC 12 i114_9 f114_28 sh_0 rfl rfl ?_
  refine vGetC 15 i114_12 f114_140 sh_17 rfl rfl ?_
  refine vLi 17 i114_15 rfl rfl ?_
  refine vIal 18 rfl i114_17 sh_21 rfl ?_
  refine vSi 20 (fun v12 => [(6, vi v12), (5, vi v11), (0, .ref 0), (1, vi a0), (2, vi a1), (3, vi a2), (4, vi a3)]) i114_18 m114 (by decide) (fun v12 => (rfl : xst1 [(5, vi v11), (0, .ref 0), (1, vi a0), (2, vi a1), (3, vi a2), (4, vi a3)] 6 (vi v12) = [(6, vi v12), (5, vi v11), (0, .ref 0), (1, vi a0), (2, vi a1), (3, vi a2), (4, vi a3)])) rfl (fun v12 => ?_)
  refine vK 21 i114_20 rfl ?_
  refine vSi0 23 [(7, vi 0), (6, vi v12), (5, vi v11), (0, .ref 0), (1, vi a0), (2, vi a1), (3, vi a2), (4, vi a3)] i114_21 m114 (by decide) rfl rfl ?_
  refine vK 24 i114_23 rfl ?_
  refine vSi0 26 [(8, vi (-1)), (7, vi 0), (6, vi v12), (5, vi v11), (0, .ref 0), (1, vi a0), (2, vi a1), (3, vi a2), (4, vi a3)] i114_24 m114 (by decide) rfl rfl ?_
  refine vK 27 i114_26 rfl ?_
  refine vSi0 29 [(9, vi 0), (8, vi (-1)), (7, vi 0), (6, vi v12), (5, vi v11), (0, .ref 0), (1, vi a0), (2, vi a1), (3, vi a2), (4, vi a3)] i114_27 m114 (by decide) rfl rfl ?_
  exact fun hD => tLc [(0, .ref 0), (1, vi a0), (2, vi a1), (4, vi a3), (5, vi v11), (6, vi v12), (7, vi 0), (8, vi (-1)), (9, vi 0)] (xNdk [0, 1, 2, 4, 5, 6, 7, 8, 9] rfl (by decide)) (xNdk [9, 8, 7, 6, 5, 0, 1, 2, 3, 4] rfl (by decide)) ⟨rfl, rfl, rfl, rfl, rfl, rfl, rfl, rfl, rfl, trivial⟩ (c_x7_tellingNumbers_29L N  hd  N s a0 a1 a3 v11 v12 0 (-1) 0 hD)
theorem f115_39 : xFld xg 115 39 = some (6, 4) := by decide +kernel
theorem f115_35 : xFld xg 115 35 = some (6, 3) := by decide +kernel
theorem i115_47 : xIns xg 115 47 = some (.iinc 3 1) := by decide +kernel
theorem m115 : (xMet xg 115).2.2 = (4, (some .int)) := by decide +kernel
theorem i115_50 : xIns xg 115 50 = some (.goto (-46)) := by decide +kernel
theorem i115_4 : xIns xg 115 4 = some (.iload_n 3) := by decide +kernel
theorem i115_5 : xIns xg 115 5 = some (.bipush 8) := by decide +kernel
theorem i115_7 : xIns xg 115 7 = some (.if_icmp .ge 46) := by decide +kernel
theorem i115_53 : xIns xg 115 53 = some (.iload_n 2) := by decide +kernel
theorem i115_54 : xIns xg 115 54 = some (.ireturn) := by decide +kernel
theorem i115_10 : xIns xg 115 10 = some (.aload_n 0) := by decide +kernel
theorem i115_11 : xIns xg 115 11 = some (.iload_n 3) := by decide +kernel
theorem i115_12 : xIns xg 115 12 = some (.invokevirtual 108) := by decide +kernel
theorem i115_15 : xIns xg 115 15 = some (.ifCond .eq 6) := by decide +kernel
theorem i115_21 : xIns xg 115 21 = some (.aload_n 0) := by decide +kernel
theorem i115_22 : xIns xg 115 22 = some (.getfield 39) := by decide +kernel
theorem i115_25 : xIns xg 115 25 = some (.aload_n 0) := by decide +kernel
theorem i115_26 : xIns xg 115 26 = some (.getfield 35) := by decide +kernel
theorem i115_29 : xIns xg 115 29 = some (.invokevirtual 183) := by decide +kernel
theorem i115_32 : xIns xg 115 32 = some (.aload_n 0) := by decide +kernel
theorem i115_33 : xIns xg 115 33 = some (.iload_n 1) := by decide +kernel
theorem i115_34 : xIns xg 115 34 = some (.iload_n 3) := by decide +kernel
theorem i115_35 : xIns xg 115 35 = some (.invokevirtual 275) := by decide +kernel
theorem i115_38 : xIns xg 115 38 = some (.ifCond .eq 9) := by decide +kernel
theorem i115_41 : xIns xg 115 41 = some (.iload_n 2) := by decide +kernel
theorem i115_42 : xIns xg 115 42 = some (.iconst 1) := by decide +kernel
theorem i115_43 : xIns xg 115 43 = some (.iload_n 3) := by decide +kernel
theorem i115_44 : xIns xg 115 44 = some (.ishl) := by decide +kernel
theorem i115_45 : xIns xg 115 45 = some (.ior) := by decide +kernel
theorem i115_46 : xIns xg 115 46 = some (.istore_n 2) := by decide +kernel
theorem i115_18 : xIns xg 115 18 = some (.goto 29) := by decide +kernel
theorem i115_0 : xIns xg 115 0 = some (.iconst 0) := by decide +kernel
theorem i115_1 : xIns xg 115 1 = some (.istore_n 2) := by decide +kernel
theorem i115_2 : xIns xg 115 2 = some (.iconst 0) := by decide +kernel
theorem i115_3 : xIns xg 115 3 = some (.istore_n 3) := by decide +kernel
def d_x7_tellingStreams_47 (N : Nat) (k4 : St → Int → Int → Int → Option Rs) (s : St) (x1 : Int) (x2 : Int) (x3 : Int) : Option Rs :=
  bd (x3 + 1) fun v1 => k4 s x1 x2 v1
set_option maxHeartbeats 4000000 in
set_option maxRecDepth 100000 in
theorem c_x7_tellingStreams_47 {sc : xS} {d : Nat} {R : Rs} (N : Nat)  (hd : 443 ≤ d) (k4 : St → Int → Int → Int → Option Rs) (hk4 : ∀ (s : St) (x1 : Int) (x2 : Int) (x3 : Int), k4 s x1 x2 x3 = some R → vT sc d 115 4 [(0, .ref 0), (1, vi x1), (2, vi x2), (3, vi x3)] [] s (fun r => r = qI R))  (s : St) (x1 : Int) (x2 : Int) (x3 : Int) : d_x7_tellingStreams_47 N k4 s x1 x2 x3 = some R → vT sc d 115 47 [(0, .ref 0), (1, vi x1), (2, vi x2), (3, vi x3)] [] s (fun r => r = qI R) := by
  obtain ⟨d, rfl⟩ : ∃ d', d = d' + 1 := ⟨d - 1, by omega⟩
  unfold d_x7_tellingStreams_47
  refine vInc 50 (fun v1 => [(3, vi v1), (0, .ref 0), (1, vi x1), (2, vi x2)]) i115_47 m115 (by decide) rfl (fun _ => rfl) rfl (fun v1 => ?_)
  refine vGo 4 i115_50 rfl ?_
  exact fun hD => tLc [(0, .ref 0), (1, vi x1), (2, vi x2), (3, vi v1)] (xNdk [0, 1, 2, 3] rfl (by decide)) (xNdk [3, 0, 1, 2] rfl (by decide)) ⟨rfl, rfl, rfl, rfl, trivial⟩ (hk4 s x1 x2 v1 hD)
def d_x7_tellingStreams_4 (N : Nat)  (k4 : St → Int → Int → Int → Option Rs) (s : St) (x1 : Int) (x2 : Int) (x3 : Int) : Option Rs :=
  (if (w32 x3) < 8 then bI (d_x7_isEmpty N  s x3) fun s2 v3 => (if (w32 v3) = 0 then bV (d_x6_takeAll N 38 26 s2 ) fun s4 => bI (d_x7_isToldBy N  s4 x1 x3) fun s6 v7 => (if (w32 v7) = 0 then d_x7_tellingStreams_47 N k4 s6 x1 x2 x3 else bd (or32 x2 (shl32 1 x3)) fun v8 => d_x7_tellingStreams_47 N k4 s6 x1 v8 x3) else d_x7_tellingStreams_47 N k4 s2 x1 x2 x3) else some (s, x2))
def d_x7_tellingStreams_4L (N : Nat)  : Nat → St → Int → Int → Int → Option Rs
  | 0 => fun _ _ _ _ => none
  | n + 1 => d_x7_tellingStreams_4 N  (d_x7_tellingStreams_4L N  n)
set_option maxHeartbeats 4000000 in
set_option maxRecDepth 100000 in
theorem c_x7_tellingStreams_4 {sc : xS} {d : Nat} {R : Rs} (N : Nat)  (hd : 443 ≤ d)   (k4 : St → Int → Int → Int → Option Rs) (hk4 : ∀ (s : St) (x1 : Int) (x2 : Int) (x3 : Int), k4 s x1 x2 x3 = some R → vT sc d 115 4 [(0, .ref 0), (1, vi x1), (2, vi x2), (3, vi x3)] [] s (fun r => r = qI R)) (s : St) (x1 : Int) (x2 : Int) (x3 : Int) : d_x7_tellingStreams_4 N  k4 s x1 x2 x3 = some R → vT sc d 115 4 [(0, .ref 0), (1, vi x1), (2, vi x2), (3, vi x3)] [] s (fun r => r = qI R) := by
  obtain ⟨d, rfl⟩ : ∃ d', d = d' + 1 := ⟨d - 1, by omega⟩
  unfold d_x7_tellingStreams_4
  refine vLin 5 i115_4 rfl rfl ?_
  refine vKb 7 i115_5 (by decide) rfl ?_
  refine vCge 53 10 rfl (show w32 8 = 8 from rfl) i115_7 rfl rfl ?_ ?_
  · refine vLin 54 i115_53 rfl rfl ?_
    exact vRi i115_54 m115 rfl
  · refine vLan 11 i115_10 rfl rfl ?_
    refine vLin 12 i115_11 rfl rfl ?_
    refine vCallI 15 [.ref 0, vi x3] [] [(0, .ref 0), (1, vi x3)] i115_12 rfl (xlk0 l115_108) (Or.inl rfl) m95 rfl rfl (Nat.le_of_ble_eq_true rfl) (Nat.le_of_ble_eq_true rfl) (Nat.le_of_ble_eq_true rfl) (xh0 sh_0 (by decide)) rfl rfl (fun R1 => c_x7_isEmpty N   (by omega) s x3) (fun s2 v3 => ?_)
    refine vZeq 21 18 rfl i115_15 rfl rfl ?_ ?_
    · refine vLan 22 i115_21 rfl rfl ?_
      refine vGetC 25 i115_22 f115_39 sh_0 rfl rfl ?_
      refine vLan 26 i115_25 rfl rfl ?_
      refine vGetC 29 i115_26 f115_35 sh_0 rfl rfl ?_
      refine vCallV 32 [.ref 38, .ref 26] [] [(0, .ref 38), (1, .ref 26)] i115_29 rfl (xlk0 l115_183) (Or.inl rfl) m75 rfl rfl (Nat.le_of_ble_eq_true rfl) (Nat.le_of_ble_eq_true rfl) (Nat.le_of_ble_eq_true rfl) (xh0 sh_38 (by decide)) rfl rfl (fun R1 => c_x6_takeAll N 38 26 isTold_38 isTold_26 (by omega) s2 ) (fun s4 => ?_)
      refine vLan 33 i115_32 rfl rfl ?_
      refine vLin 34 i115_33 rfl rfl ?_
      refine vLin 35 i115_34 rfl rfl ?_
      refine vCallI 38 [.ref 0, vi x1, vi x3] [] [(0, .ref 0), (1, vi x1), (2, vi x3)] i115_35 rfl (xlk0 l115_275) (Or.inl rfl) m99 rfl rfl (Nat.le_of_ble_eq_true rfl) (Nat.le_of_ble_eq_true rfl) (Nat.le_of_ble_eq_true rfl) (xh0 sh_0 (by decide)) rfl rfl (fun R1 => c_x7_isToldBy N   (by omega) s4 x1 x3) (fun s6 v7 => ?_)
      refine vZeq 47 41 rfl i115_38 rfl rfl ?_ ?_
      · exact fun hD => c_x7_tellingStreams_47 N  hd k4 hk4 s6 x1 x2 x3 hD
      · refine vLin 42 i115_41 rfl rfl ?_
        refine vK 43 i115_42 rfl ?_
        refine vLin 44 i115_43 rfl rfl ?_
        refine vIshl 45 i115_44 rfl ?_
        refine vIor 46 i115_45 rfl ?_
        refine vSin 47 (fun v8 => [(2, vi v8), (0, .ref 0), (1, vi x1), (3, vi x3)]) i115_46 m115 (by decide) (fun v8 => (rfl : xst1 [(0, .ref 0), (1, vi x1), (2, vi x2), (3, vi x3)] 2 (vi v8) = [(2, vi v8), (0, .ref 0), (1, vi x1), (3, vi x3)])) rfl (fun v8 => ?_)
        exact fun hD => tLc [(0, .ref 0), (1, vi x1), (2, vi v8), (3, vi x3)] (xNdk [0, 1, 2, 3] rfl (by decide)) (xNdk [2, 0, 1, 3] rfl (by decide)) ⟨rfl, rfl, rfl, rfl, trivial⟩ (c_x7_tellingStreams_47 N  hd k4 hk4 s6 x1 v8 x3 hD)
    · refine vGo 47 i115_18 rfl ?_
      exact fun hD => c_x7_tellingStreams_47 N  hd k4 hk4 s2 x1 x2 x3 hD
theorem c_x7_tellingStreams_4L {sc : xS} {d : Nat} {R : Rs} (N : Nat)  (hd : 443 ≤ d)   : ∀ (n : Nat) (s : St) (x1 : Int) (x2 : Int) (x3 : Int), d_x7_tellingStreams_4L N  n s x1 x2 x3 = some R → vT sc d 115 4 [(0, .ref 0), (1, vi x1), (2, vi x2), (3, vi x3)] [] s (fun r => r = qI R) := by
  intro n
  induction n with
  | zero => intro s x1 x2 x3 hD; cases hD
  | succ n ih => intro s x1 x2 x3 hD; exact c_x7_tellingStreams_4 N  hd  _ ih s x1 x2 x3 hD
def d_x7_tellingStreams (N : Nat)  (s : St) (a0 : Int) : Option Rs :=
  d_x7_tellingStreams_4L N  N s a0 0 0
set_option maxHeartbeats 4000000 in
set_option maxRecDepth 100000 in
theorem c_x7_tellingStreams {sc : xS} {d : Nat} {R : Rs} (N : Nat)  (hd : 443 ≤ d)   (s : St) (a0 : Int) : d_x7_tellingStreams N  s a0 = some R → vT sc d 115 0 [(0, .ref 0), (1, vi a0)] [] s (fun r => r = qI R) := by
  obtain ⟨d, rfl⟩ : ∃ d', d = d' + 1 := ⟨d - 1, by omega⟩
  unfold d_x7_tellingStreams
  refine vK 1 i115_0 rfl ?_
  refine vSin0 2 [(2, vi 0), (0, .ref 0), (1, vi a0)] i115_1 m115 (by decide) rfl rfl ?_
  refine vK 3 i115_2 rfl ?_
  refine vSin0 4 [(3, vi 0), (2, vi 0), (0, .ref 0), (1, vi a0)] i115_3 m115 (by decide) rfl rfl ?_
  exact fun hD => tLc [(0, .ref 0), (1, vi a0), (2, vi 0), (3, vi 0)] (xNdk [0, 1, 2, 3] rfl (by decide)) (xNdk [3, 2, 0, 1] rfl (by decide)) ⟨rfl, rfl, rfl, rfl, trivial⟩ (c_x7_tellingStreams_4L N  hd  N s a0 0 0 hD)
theorem f116_54 : xFld xg 116 54 = some (6, 6) := by decide +kernel
theorem f116_236 : xFld xg 116 236 = some (2, 1) := by decide +kernel
theorem f116_28 : xFld xg 116 28 = some (6, 2) := by decide +kernel
theorem f116_115 : xFld xg 116 115 = some (4, 1) := by decide +kernel
theorem i116_143 : xIns xg 116 143 = some (.invokevirtual 240) := by decide +kernel
theorem i116_146 : xIns xg 116 146 = some (.ireturn) := by decide +kernel
theorem m116 : (xMet xg 116).2.2 = (5, (some .int)) := by decide +kernel
theorem i116_83 : xIns xg 116 83 = some (.aload_n 0) := by decide +kernel
theorem i116_84 : xIns xg 116 84 = some (.getfield 54) := by decide +kernel
theorem i116_87 : xIns xg 116 87 = some (.iload_n 1) := by decide +kernel
theorem i116_88 : xIns xg 116 88 = some (.invokevirtual 233) := by decide +kernel
theorem i116_91 : xIns xg 116 91 = some (.ifCond .eq 6) := by decide +kernel
theorem i116_97 : xIns xg 116 97 = some (.aload_n 0) := by decide +kernel
theorem i116_98 : xIns xg 116 98 = some (.getfield 54) := by decide +kernel
theorem i116_101 : xIns xg 116 101 = some (.getfield 236) := by decide +kernel
theorem i116_104 : xIns xg 116 104 = some (.iload_n 1) := by decide +kernel
theorem i116_105 : xIns xg 116 105 = some (.iaload) := by decide +kernel
theorem i116_106 : xIns xg 116 106 = some (.bipush 16) := by decide +kernel
theorem i116_108 : xIns xg 116 108 = some (.if_icmp .le 6) := by decide +kernel
theorem i116_114 : xIns xg 116 114 = some (.iload_n 3) := by decide +kernel
theorem i116_115 : xIns xg 116 115 = some (.ifCond .ne 11) := by decide +kernel
theorem i116_126 : xIns xg 116 126 = some (.aload_n 0) := by decide +kernel
theorem i116_127 : xIns xg 116 127 = some (.iload_n 1) := by decide +kernel
theorem i116_128 : xIns xg 116 128 = some (.iload_n 2) := by decide +kernel
theorem i116_129 : xIns xg 116 129 = some (.iload 4) := by decide +kernel
theorem i116_131 : xIns xg 116 131 = some (.iload_n 3) := by decide +kernel
theorem i116_132 : xIns xg 116 132 = some (.iconst 4) := by decide +kernel
theorem i116_133 : xIns xg 116 133 = some (.irem) := by decide +kernel
theorem i116_134 : xIns xg 116 134 = some (.iconst 1) := by decide +kernel
theorem i116_135 : xIns xg 116 135 = some (.if_icmp .ne 7) := by decide +kernel
theorem i116_142 : xIns xg 116 142 = some (.iconst 0) := by decide +kernel
theorem i116_138 : xIns xg 116 138 = some (.iconst 1) := by decide +kernel
theorem i116_139 : xIns xg 116 139 = some (.goto 4) := by decide +kernel
theorem i116_118 : xIns xg 116 118 = some (.aload_n 0) := by decide +kernel
theorem i116_119 : xIns xg 116 119 = some (.iload_n 1) := by decide +kernel
theorem i116_120 : xIns xg 116 120 = some (.invokevirtual 237) := by decide +kernel
theorem i116_123 : xIns xg 116 123 = some (.goto 23) := by decide +kernel
theorem i116_111 : xIns xg 116 111 = some (.bipush (-2)) := by decide +kernel
theorem i116_113 : xIns xg 116 113 = some (.ireturn) := by decide +kernel
theorem i116_94 : xIns xg 116 94 = some (.bipush (-11)) := by decide +kernel
theorem i116_96 : xIns xg 116 96 = some (.ireturn) := by decide +kernel
theorem i116_0 : xIns xg 116 0 = some (.iload_n 1) := by decide +kernel
theorem i116_1 : xIns xg 116 1 = some (.invokestatic 215) := by decide +kernel
theorem i116_4 : xIns xg 116 4 = some (.ifCond .eq 17) := by decide +kernel
theorem i116_21 : xIns xg 116 21 = some (.bipush (-2)) := by decide +kernel
theorem i116_23 : xIns xg 116 23 = some (.ireturn) := by decide +kernel
theorem i116_7 : xIns xg 116 7 = some (.iload_n 2) := by decide +kernel
theorem i116_8 : xIns xg 116 8 = some (.invokestatic 86) := by decide +kernel
theorem i116_11 : xIns xg 116 11 = some (.ifCond .eq 10) := by decide +kernel
theorem i116_14 : xIns xg 116 14 = some (.iload_n 3) := by decide +kernel
theorem i116_15 : xIns xg 116 15 = some (.invokestatic 230) := by decide +kernel
theorem i116_18 : xIns xg 116 18 = some (.ifCond .ne 6) := by decide +kernel
theorem i116_24 : xIns xg 116 24 = some (.aload_n 0) := by decide +kernel
theorem i116_25 : xIns xg 116 25 = some (.iload_n 2) := by decide +kernel
theorem i116_26 : xIns xg 116 26 = some (.invokevirtual 108) := by decide +kernel
theorem i116_29 : xIns xg 116 29 = some (.ifCond .eq 6) := by decide +kernel
theorem i116_35 : xIns xg 116 35 = some (.iload_n 3) := by decide +kernel
theorem i116_36 : xIns xg 116 36 = some (.iconst 4) := by decide +kernel
theorem i116_37 : xIns xg 116 37 = some (.idiv) := by decide +kernel
theorem i116_38 : xIns xg 116 38 = some (.iconst 1) := by decide +kernel
theorem i116_39 : xIns xg 116 39 = some (.isub) := by decide +kernel
theorem i116_40 : xIns xg 116 40 = some (.istore 4) := by decide +kernel
theorem i116_42 : xIns xg 116 42 = some (.iload_n 3) := by decide +kernel
theorem i116_43 : xIns xg 116 43 = some (.ifCond .eq 40) := by decide +kernel
theorem i116_46 : xIns xg 116 46 = some (.aload_n 0) := by decide +kernel
theorem i116_47 : xIns xg 116 47 = some (.iload_n 2) := by decide +kernel
theorem i116_48 : xIns xg 116 48 = some (.iload 4) := by decide +kernel
theorem i116_50 : xIns xg 116 50 = some (.invokevirtual 111) := by decide +kernel
theorem i116_53 : xIns xg 116 53 = some (.ifCond .ne 6) := by decide +kernel
theorem i116_59 : xIns xg 116 59 = some (.aload_n 0) := by decide +kernel
theorem i116_60 : xIns xg 116 60 = some (.getfield 28) := by decide +kernel
theorem i116_63 : xIns xg 116 63 = some (.getfield 115) := by decide +kernel
theorem i116_66 : xIns xg 116 66 = some (.iload_n 2) := by decide +kernel
theorem i116_67 : xIns xg 116 67 = some (.bipush 24) := by decide +kernel
theorem i116_69 : xIns xg 116 69 = some (.imul) := by decide +kernel
theorem i116_70 : xIns xg 116 70 = some (.iload 4) := by decide +kernel
theorem i116_72 : xIns xg 116 72 = some (.iadd) := by decide +kernel
theorem i116_73 : xIns xg 116 73 = some (.iaload) := by decide +kernel
theorem i116_74 : xIns xg 116 74 = some (.invokestatic 135) := by decide +kernel
theorem i116_77 : xIns xg 116 77 = some (.ifCond .ne 6) := by decide +kernel
theorem i116_80 : xIns xg 116 80 = some (.bipush (-13)) := by decide +kernel
theorem i116_82 : xIns xg 116 82 = some (.ireturn) := by decide +kernel
theorem i116_56 : xIns xg 116 56 = some (.bipush (-12)) := by decide +kernel
theorem i116_58 : xIns xg 116 58 = some (.ireturn) := by decide +kernel
theorem i116_32 : xIns xg 116 32 = some (.bipush (-3)) := by decide +kernel
theorem i116_34 : xIns xg 116 34 = some (.ireturn) := by decide +kernel
def d_x7_tells_143 (N : Nat)  (s : St) (z0 : Int) (z1 : Int) (z2 : Int) (z3 : Int) : Option Rs :=
  bI (d_x7_tellingNumbers N  s z3 z2 z1 z0) fun s1 v2 => some (s1, v2)
set_option maxHeartbeats 4000000 in
set_option maxRecDepth 100000 in
theorem c_x7_tells_143 {sc : xS} {d : Nat} {R : Rs} (N : Nat)  (hd : 444 ≤ d)   (s : St) (z0 : Int) (z1 : Int) (z2 : Int) (z3 : Int) : d_x7_tells_143 N  s z0 z1 z2 z3 = some R → vT sc d 116 143 [] [vi z0, vi z1, vi z2, vi z3, .ref 0] s (fun r => r = qI R) := by
  obtain ⟨d, rfl⟩ : ∃ d', d = d' + 1 := ⟨d - 1, by omega⟩
  unfold d_x7_tells_143
  refine vCallI 146 [.ref 0, vi z3, vi z2, vi z1, vi z0] [] [(0, .ref 0), (1, vi z3), (2, vi z2), (3, vi z1), (4, vi z0)] i116_143 rfl (xlk0 l116_240) (Or.inl rfl) m114 rfl rfl (Nat.le_of_ble_eq_true rfl) (Nat.le_of_ble_eq_true rfl) (Nat.le_of_ble_eq_true rfl) (xh0 sh_0 (by decide)) rfl rfl (fun R1 => c_x7_tellingNumbers N   (by omega) s z3 z2 z1 z0) (fun s1 v2 => ?_)
  exact vRi i116_146 m116 rfl
def d_x7_tells_83 (N : Nat)  (s : St) (x1 : Int) (x2 : Int) (x3 : Int) (x4 : Int) : Option Rs :=
  bI (d_x3_isMissing N  s x1) fun s3 v4 => (if (w32 v4) = 0 then if 0 ≤ (w32 x1) ∧ (w32 x1) < ((4 : Nat) : Int) then (if 16 < (w32 (s3 53 (Int.toNat (w32 x1)))) then some (s3, (-2)) else (if (w32 x3) = 0 then bI (d_x7_tellingStreams N  s3 x1) fun s5 v6 => some (s5, v6) else if 4 = 0 then none else (if (w32 (Int.tmod (w32 x3) 4)) = 1 then d_x7_tells_143 N  s3 1 x4 x2 x1 else d_x7_tells_143 N  s3 0 x4 x2 x1))) else none else some (s3, (-11)))
set_option maxHeartbeats 4000000 in
set_option maxRecDepth 100000 in
theorem c_x7_tells_83 {sc : xS} {d : Nat} {R : Rs} (N : Nat)  (hd : 444 ≤ d)   (s : St) (x1 : Int) (x2 : Int) (x3 : Int) (x4 : Int) : d_x7_tells_83 N  s x1 x2 x3 x4 = some R → vT sc d 116 83 [(0, .ref 0), (1, vi x1), (2, vi x2), (3, vi x3), (4, vi x4)] [] s (fun r => r = qI R) := by
  obtain ⟨d, rfl⟩ : ∃ d', d = d' + 1 := ⟨d - 1, by omega⟩
  unfold d_x7_tells_83
  refine vLan 84 i116_83 rfl rfl ?_
  refine vGetC 87 i116_84 f116_54 sh_0 rfl rfl ?_
  refine vLin 88 i116_87 rfl rfl ?_
  refine vCallI 91 [.ref 51, vi x1] [] [(0, .ref 51), (1, vi x1)] i116_88 rfl (xlk0 l116_233) (Or.inl rfl) m33 rfl rfl (Nat.le_of_ble_eq_true rfl) (Nat.le_of_ble_eq_true rfl) (Nat.le_of_ble_eq_true rfl) (xh0 sh_51 (by decide)) rfl rfl (fun R1 => c_x3_isMissing N   (by omega) s x1) (fun s3 v4 => ?_)
  refine vZeq 97 94 rfl i116_91 rfl rfl ?_ ?_
  · refine vLan 98 i116_97 rfl rfl ?_
    refine vGetC 101 i116_98 f116_54 sh_0 rfl rfl ?_
    refine vGetC 104 i116_101 f116_236 sh_51 rfl rfl ?_
    refine vLin 105 i116_104 rfl rfl ?_
    refine vIal 106 rfl i116_105 sh_53 rfl ?_
    refine vKb 108 i116_106 (by decide) rfl ?_
    refine vCle 114 111 rfl (show w32 16 = 16 from rfl) i116_108 rfl rfl ?_ ?_
    · refine vLin 115 i116_114 rfl rfl ?_
      refine vZne 126 118 rfl i116_115 rfl rfl ?_ ?_
      · refine vLan 127 i116_126 rfl rfl ?_
        refine vLin 128 i116_127 rfl rfl ?_
        refine vLin 129 i116_128 rfl rfl ?_
        refine vLi 131 i116_129 rfl rfl ?_
        refine vLin 132 i116_131 rfl rfl ?_
        refine vK 133 i116_132 rfl ?_
        refine vIrem 134 rfl (show w32 4 = 4 from rfl) i116_133 rfl ?_
        refine vK 135 i116_134 rfl ?_
        refine vCne 142 138 rfl (show w32 1 = 1 from rfl) i116_135 rfl rfl ?_ ?_
        · refine vK 143 i116_142 rfl ?_
          exact fun hD => tLc [] (xNdk [] rfl (by decide)) (xNdk [0, 1, 2, 3, 4] rfl (by decide)) trivial (c_x7_tells_143 N  hd  s3 0 x4 x2 x1 hD)
        · refine vK 139 i116_138 rfl ?_
          refine vGo 143 i116_139 rfl ?_
          exact fun hD => tLc [] (xNdk [] rfl (by decide)) (xNdk [0, 1, 2, 3, 4] rfl (by decide)) trivial (c_x7_tells_143 N  hd  s3 1 x4 x2 x1 hD)
      · refine vLan 119 i116_118 rfl rfl ?_
        refine vLin 120 i116_119 rfl rfl ?_
        refine vCallI 123 [.ref 0, vi x1] [] [(0, .ref 0), (1, vi x1)] i116_120 rfl (xlk0 l116_237) (Or.inl rfl) m115 rfl rfl (Nat.le_of_ble_eq_true rfl) (Nat.le_of_ble_eq_true rfl) (Nat.le_of_ble_eq_true rfl) (xh0 sh_0 (by decide)) rfl rfl (fun R1 => c_x7_tellingStreams N   (by omega) s3 x1) (fun s5 v6 => ?_)
        refine vGo 146 i116_123 rfl ?_
        exact vRi i116_146 m116 rfl
    · refine vKb 113 i116_111 (by decide) rfl ?_
      exact vRi i116_113 m116 rfl
  · refine vKb 96 i116_94 (by decide) rfl ?_
    exact vRi i116_96 m116 rfl
def d_x7_tells (N : Nat)  (s : St) (a0 : Int) (a1 : Int) (a2 : Int) : Option Rs :=
  bI (d_x7_isSheet N  s a0) fun s7 v8 => (if (w32 v8) = 0 then some (s7, (-2)) else bI (d_x7_isStream N  s7 a1) fun s9 v10 => (if (w32 v10) = 0 then some (s9, (-2)) else bI (d_x7_isQuestion N  s9 a2) fun s11 v12 => (if (w32 v12) = 0 then some (s11, (-2)) else bI (d_x7_isEmpty N  s11 a1) fun s13 v14 => (if (w32 v14) = 0 then if 4 = 0 then none else bd ((Int.tdiv (w32 a2) 4) - 1) fun v15 => (if (w32 a2) = 0 then d_x7_tells_83 N  s13 a0 a1 a2 v15 else bI (d_x7_hasPart N  s13 a1 v15) fun s16 v17 => (if (w32 v17) = 0 then some (s16, (-12)) else if 0 ≤ (w32 ((a1 * 24) + v15)) ∧ (w32 ((a1 * 24) + v15)) < ((192 : Nat) : Int) then bI (d_x0_hasNumber N  s16 (s16 19 (Int.toNat (w32 ((a1 * 24) + v15))))) fun s18 v19 => (if (w32 v19) = 0 then some (s18, (-13)) else d_x7_tells_83 N  s18 a0 a1 a2 v15) else none)) else some (s13, (-3))))))
set_option maxHeartbeats 4000000 in
set_option maxRecDepth 100000 in
theorem c_x7_tells {sc : xS} {d : Nat} {R : Rs} (N : Nat)  (hd : 444 ≤ d)   (s : St) (a0 : Int) (a1 : Int) (a2 : Int) : d_x7_tells N  s a0 a1 a2 = some R → vT sc d 116 0 [(0, .ref 0), (1, vi a0), (2, vi a1), (3, vi a2)] [] s (fun r => r = qI R) := by
  obtain ⟨d, rfl⟩ : ∃ d', d = d' + 1 := ⟨d - 1, by omega⟩
  unfold d_x7_tells
  refine vLin 1 i116_0 rfl rfl ?_
  refine vCallI 4 [vi a0] [] [(0, vi a0)] i116_1 rfl (xlk1 l116_215) (Or.inr (Or.inl rfl)) m97 rfl rfl (Nat.le_of_ble_eq_true rfl) (Nat.le_of_ble_eq_true rfl) (Nat.le_of_ble_eq_true rfl) rfl rfl rfl (fun R1 => c_x7_isSheet N   (by omega) s a0) (fun s7 v8 => ?_)
  refine vZeq 21 7 rfl i116_4 rfl rfl ?_ ?_
  · refine vKb 23 i116_21 (by decide) rfl ?_
    exact vRi i116_23 m116 rfl
  · refine vLin 8 i116_7 rfl rfl ?_
    refine vCallI 11 [vi a1] [] [(0, vi a1)] i116_8 rfl (xlk1 l116_86) (Or.inr (Or.inl rfl)) m98 rfl rfl (Nat.le_of_ble_eq_true rfl) (Nat.le_of_ble_eq_true rfl) (Nat.le_of_ble_eq_true rfl) rfl rfl rfl (fun R1 => c_x7_isStream N   (by omega) s7 a1) (fun s9 v10 => ?_)
    refine vZeq 21 14 rfl i116_11 rfl rfl ?_ ?_
    · refine vKb 23 i116_21 (by decide) rfl ?_
      exact vRi i116_23 m116 rfl
    · refine vLin 15 i116_14 rfl rfl ?_
      refine vCallI 18 [vi a2] [] [(0, vi a2)] i116_15 rfl (xlk1 l116_230) (Or.inr (Or.inl rfl)) m96 rfl rfl (Nat.le_of_ble_eq_true rfl) (Nat.le_of_ble_eq_true rfl) (Nat.le_of_ble_eq_true rfl) rfl rfl rfl (fun R1 => c_x7_isQuestion N   (by omega) s9 a2) (fun s11 v12 => ?_)
      refine vZne 24 21 rfl i116_18 rfl rfl ?_ ?_
      · refine vLan 25 i116_24 rfl rfl ?_
        refine vLin 26 i116_25 rfl rfl ?_
        refine vCallI 29 [.ref 0, vi a1] [] [(0, .ref 0), (1, vi a1)] i116_26 rfl (xlk0 l116_108) (Or.inl rfl) m95 rfl rfl (Nat.le_of_ble_eq_true rfl) (Nat.le_of_ble_eq_true rfl) (Nat.le_of_ble_eq_true rfl) (xh0 sh_0 (by decide)) rfl rfl (fun R1 => c_x7_isEmpty N   (by omega) s11 a1) (fun s13 v14 => ?_)
        refine vZeq 35 32 rfl i116_29 rfl rfl ?_ ?_
        · refine vLin 36 i116_35 rfl rfl ?_
          refine vK 37 i116_36 rfl ?_
          refine vIdiv 38 rfl (show w32 4 = 4 from rfl) i116_37 rfl ?_
          refine vK 39 i116_38 rfl ?_
          refine vIsub 40 i116_39 rfl ?_
          refine vSi 42 (fun v15 => [(4, vi v15), (0, .ref 0), (1, vi a0), (2, vi a1), (3, vi a2)]) i116_40 m116 (by decide) (fun v15 => (rfl : xst1 [(0, .ref 0), (1, vi a0), (2, vi a1), (3, vi a2)] 4 (vi v15) = [(4, vi v15), (0, .ref 0), (1, vi a0), (2, vi a1), (3, vi a2)])) rfl (fun v15 => ?_)
          refine vLin 43 i116_42 rfl rfl ?_
          refine vZeq 83 46 rfl i116_43 rfl rfl ?_ ?_
          · exact fun hD => tLc [(0, .ref 0), (1, vi a0), (2, vi a1), (3, vi a2), (4, vi v15)] (xNdk [0, 1, 2, 3, 4] rfl (by decide)) (xNdk [4, 0, 1, 2, 3] rfl (by decide)) ⟨rfl, rfl, rfl, rfl, rfl, trivial⟩ (c_x7_tells_83 N  hd  s13 a0 a1 a2 v15 hD)
          · refine vLan 47 i116_46 rfl rfl ?_
            refine vLin 48 i116_47 rfl rfl ?_
            refine vLi 50 i116_48 rfl rfl ?_
            refine vCallI 53 [.ref 0, vi a1, vi v15] [] [(0, .ref 0), (1, vi a1), (2, vi v15)] i116_50 rfl (xlk0 l116_111) (Or.inl rfl) m90 rfl rfl (Nat.le_of_ble_eq_true rfl) (Nat.le_of_ble_eq_true rfl) (Nat.le_of_ble_eq_true rfl) (xh0 sh_0 (by decide)) rfl rfl (fun R1 => c_x7_hasPart N   (by omega) s13 a1 v15) (fun s16 v17 => ?_)
            refine vZne 59 56 rfl i116_53 rfl rfl ?_ ?_
            · refine vLan 60 i116_59 rfl rfl ?_
              refine vGetC 63 i116_60 f116_28 sh_0 rfl rfl ?_
              refine vGetC 66 i116_63 f116_115 sh_17 rfl rfl ?_
              refine vLin 67 i116_66 rfl rfl ?_
              refine vKb 69 i116_67 (by decide) rfl ?_
              refine vImul 70 i116_69 rfl ?_
              refine vLi 72 i116_70 rfl rfl ?_
              refine vIadd 73 i116_72 rfl ?_
              refine vIal 74 rfl i116_73 sh_19 rfl ?_
              refine vCallI 77 [vi (s16 19 (Int.toNat (w32 ((a1 * 24) + v15))))] [] [(0, vi (s16 19 (Int.toNat (w32 ((a1 * 24) + v15)))))] i116_74 rfl (xlk1 l116_135) (Or.inr (Or.inl rfl)) m2 rfl rfl (Nat.le_of_ble_eq_true rfl) (Nat.le_of_ble_eq_true rfl) (Nat.le_of_ble_eq_true rfl) rfl rfl rfl (fun R1 => c_x0_hasNumber N   (by omega) s16 (s16 19 (Int.toNat (w32 ((a1 * 24) + v15))))) (fun s18 v19 => ?_)
              refine vZne 83 80 rfl i116_77 rfl rfl ?_ ?_
              · exact fun hD => tLc [(0, .ref 0), (1, vi a0), (2, vi a1), (3, vi a2), (4, vi v15)] (xNdk [0, 1, 2, 3, 4] rfl (by decide)) (xNdk [4, 0, 1, 2, 3] rfl (by decide)) ⟨rfl, rfl, rfl, rfl, rfl, trivial⟩ (c_x7_tells_83 N  hd  s18 a0 a1 a2 v15 hD)
              · refine vKb 82 i116_80 (by decide) rfl ?_
                exact vRi i116_82 m116 rfl
            · refine vKb 58 i116_56 (by decide) rfl ?_
              exact vRi i116_58 m116 rfl
        · refine vKb 34 i116_32 (by decide) rfl ?_
          exact vRi i116_34 m116 rfl
      · refine vKb 23 i116_21 (by decide) rfl ?_
        exact vRi i116_23 m116 rfl
theorem f92_62 : xFld xg 92 62 = some (6, 8) := by decide +kernel
theorem f92_28 : xFld xg 92 28 = some (6, 2) := by decide +kernel
theorem f92_65 : xFld xg 92 65 = some (6, 9) := by decide +kernel
theorem f92_35 : xFld xg 92 35 = some (6, 3) := by decide +kernel
theorem f92_76 : xFld xg 92 76 = some (6, 12) := by decide +kernel
theorem i92_0 : xIns xg 92 0 = some (.aload_n 0) := by decide +kernel
theorem i92_1 : xIns xg 92 1 = some (.getfield 62) := by decide +kernel
theorem i92_4 : xIns xg 92 4 = some (.aload_n 0) := by decide +kernel
theorem i92_5 : xIns xg 92 5 = some (.getfield 28) := by decide +kernel
theorem i92_8 : xIns xg 92 8 = some (.invokevirtual 244) := by decide +kernel
theorem i92_11 : xIns xg 92 11 = some (.aload_n 0) := by decide +kernel
theorem i92_12 : xIns xg 92 12 = some (.getfield 65) := by decide +kernel
theorem i92_15 : xIns xg 92 15 = some (.aload_n 0) := by decide +kernel
theorem i92_16 : xIns xg 92 16 = some (.getfield 35) := by decide +kernel
theorem i92_19 : xIns xg 92 19 = some (.invokevirtual 183) := by decide +kernel
theorem i92_22 : xIns xg 92 22 = some (.aload_n 0) := by decide +kernel
theorem i92_23 : xIns xg 92 23 = some (.aload_n 0) := by decide +kernel
theorem i92_24 : xIns xg 92 24 = some (.getfield 76) := by decide +kernel
theorem i92_27 : xIns xg 92 27 = some (.putfield 68) := by decide +kernel
theorem p92_68 : xPut xg 92 68 = some (6, 10, .int) := by decide +kernel
theorem i92_30 : xIns xg 92 30 = some (.aload_n 0) := by decide +kernel
theorem i92_31 : xIns xg 92 31 = some (.iconst 1) := by decide +kernel
theorem i92_32 : xIns xg 92 32 = some (.putfield 72) := by decide +kernel
theorem p92_72 : xPut xg 92 72 = some (6, 11, .boolean) := by decide +kernel
theorem i92_35 : xIns xg 92 35 = some (.aload_n 0) := by decide +kernel
theorem i92_36 : xIns xg 92 36 = some (.getfield 28) := by decide +kernel
theorem i92_39 : xIns xg 92 39 = some (.invokevirtual 247) := by decide +kernel
theorem i92_42 : xIns xg 92 42 = some (.ireturn) := by decide +kernel
theorem m92 : (xMet xg 92).2.2 = (1, (some .int)) := by decide +kernel
def d_x7_image (N : Nat)  (s : St)  : Option Rs :=
  bV (d_x5_takeAll N 56 8 17 8 s ) fun s1 => bV (d_x6_takeAll N 65 26 s1 ) fun s3 => bd (up s3 0 10 (s3 0 12)) fun s5 => bd (up s5 0 11 1) fun s6 => bI (d_x5_filledStreams N 17 8 s6 ) fun s7 v8 => some (s7, v8)
set_option maxHeartbeats 4000000 in
set_option maxRecDepth 100000 in
theorem c_x7_image {sc : xS} {d : Nat} {R : Rs} (N : Nat)  (hd : 4 ≤ d)   (s : St)  : d_x7_image N  s  = some R → vT sc d 92 0 [(0, .ref 0)] [] s (fun r => r = qI R) := by
  obtain ⟨d, rfl⟩ : ∃ d', d = d' + 1 := ⟨d - 1, by omega⟩
  unfold d_x7_image
  refine vLan 1 i92_0 rfl rfl ?_
  refine vGetC 4 i92_1 f92_62 sh_0 rfl rfl ?_
  refine vLan 5 i92_4 rfl rfl ?_
  refine vGetC 8 i92_5 f92_28 sh_0 rfl rfl ?_
  refine vCallV 11 [.ref 56, .ref 17] [] [(0, .ref 56), (1, .ref 17)] i92_8 rfl (xlk0 l92_244) (Or.inl rfl) m68 rfl rfl (Nat.le_of_ble_eq_true rfl) (Nat.le_of_ble_eq_true rfl) (Nat.le_of_ble_eq_true rfl) (xh0 sh_56 (by decide)) rfl rfl (fun R1 => c_x5_takeAll N 56 8 17 8 isTexts_56 isTexts_17 (by omega) s ) (fun s1 => ?_)
  refine vLan 12 i92_11 rfl rfl ?_
  refine vGetC 15 i92_12 f92_65 sh_0 rfl rfl ?_
  refine vLan 16 i92_15 rfl rfl ?_
  refine vGetC 19 i92_16 f92_35 sh_0 rfl rfl ?_
  refine vCallV 22 [.ref 65, .ref 26] [] [(0, .ref 65), (1, .ref 26)] i92_19 rfl (xlk0 l92_183) (Or.inl rfl) m75 rfl rfl (Nat.le_of_ble_eq_true rfl) (Nat.le_of_ble_eq_true rfl) (Nat.le_of_ble_eq_true rfl) (xh0 sh_65 (by decide)) rfl rfl (fun R1 => c_x6_takeAll N 65 26 isTold_65 isTold_26 (by omega) s1 ) (fun s3 => ?_)
  refine vLan 23 i92_22 rfl rfl ?_
  refine vLan 24 i92_23 rfl rfl ?_
  refine vGet 27 i92_24 f92_76 sh_0 rfl rfl ?_
  refine vPut 30 i92_27 p92_68 sh_0 rfl rfl (fun s5 => ?_)
  refine vLan 31 i92_30 rfl rfl ?_
  refine vK 32 i92_31 rfl ?_
  refine vPutZ0 35 (Or.inr rfl) i92_32 p92_72 sh_0 rfl rfl (fun s6 => ?_)
  refine vLan 36 i92_35 rfl rfl ?_
  refine vGetC 39 i92_36 f92_28 sh_0 rfl rfl ?_
  refine vCallI 42 [.ref 17] [] [(0, .ref 17)] i92_39 rfl (xlk0 l92_247) (Or.inl rfl) m64 rfl rfl (Nat.le_of_ble_eq_true rfl) (Nat.le_of_ble_eq_true rfl) (Nat.le_of_ble_eq_true rfl) (xh0 sh_17 (by decide)) rfl rfl (fun R1 => c_x5_filledStreams N 17 8 isTexts_17 (by omega) s6 ) (fun s7 v8 => ?_)
  exact vRi i92_42 m92 rfl
theorem f79_72 : xFld xg 79 72 = some (6, 11) := by decide +kernel
theorem f79_28 : xFld xg 79 28 = some (6, 2) := by decide +kernel
theorem f79_62 : xFld xg 79 62 = some (6, 8) := by decide +kernel
theorem f79_35 : xFld xg 79 35 = some (6, 3) := by decide +kernel
theorem f79_65 : xFld xg 79 65 = some (6, 9) := by decide +kernel
theorem f79_68 : xFld xg 79 68 = some (6, 10) := by decide +kernel
theorem i79_0 : xIns xg 79 0 = some (.aload_n 0) := by decide +kernel
theorem i79_1 : xIns xg 79 1 = some (.getfield 72) := by decide +kernel
theorem i79_4 : xIns xg 79 4 = some (.ifCond .ne 6) := by decide +kernel
theorem i79_10 : xIns xg 79 10 = some (.aload_n 0) := by decide +kernel
theorem i79_11 : xIns xg 79 11 = some (.getfield 28) := by decide +kernel
theorem i79_14 : xIns xg 79 14 = some (.aload_n 0) := by decide +kernel
theorem i79_15 : xIns xg 79 15 = some (.getfield 62) := by decide +kernel
theorem i79_18 : xIns xg 79 18 = some (.invokevirtual 244) := by decide +kernel
theorem i79_21 : xIns xg 79 21 = some (.aload_n 0) := by decide +kernel
theorem i79_22 : xIns xg 79 22 = some (.getfield 35) := by decide +kernel
theorem i79_25 : xIns xg 79 25 = some (.aload_n 0) := by decide +kernel
theorem i79_26 : xIns xg 79 26 = some (.getfield 65) := by decide +kernel
theorem i79_29 : xIns xg 79 29 = some (.invokevirtual 183) := by decide +kernel
theorem i79_32 : xIns xg 79 32 = some (.aload_n 0) := by decide +kernel
theorem i79_33 : xIns xg 79 33 = some (.aload_n 0) := by decide +kernel
theorem i79_34 : xIns xg 79 34 = some (.getfield 68) := by decide +kernel
theorem i79_37 : xIns xg 79 37 = some (.putfield 76) := by decide +kernel
theorem p79_76 : xPut xg 79 76 = some (6, 12, .int) := by decide +kernel
theorem i79_40 : xIns xg 79 40 = some (.aload_n 0) := by decide +kernel
theorem i79_41 : xIns xg 79 41 = some (.getfield 28) := by decide +kernel
theorem i79_44 : xIns xg 79 44 = some (.invokevirtual 247) := by decide +kernel
theorem i79_47 : xIns xg 79 47 = some (.ireturn) := by decide +kernel
theorem m79 : (xMet xg 79).2.2 = (1, (some .int)) := by decide +kernel
theorem i79_7 : xIns xg 79 7 = some (.bipush (-3)) := by decide +kernel
theorem i79_9 : xIns xg 79 9 = some (.ireturn) := by decide +kernel
def d_x7_back (N : Nat)  (s : St)  : Option Rs :=
  (if (w32 (s 0 11)) = 0 then some (s, (-3)) else bV (d_x5_takeAll N 17 8 56 8 s ) fun s1 => bV (d_x6_takeAll N 26 65 s1 ) fun s3 => bd (up s3 0 12 (s3 0 10)) fun s5 => bI (d_x5_filledStreams N 17 8 s5 ) fun s6 v7 => some (s6, v7))
set_option maxHeartbeats 4000000 in
set_option maxRecDepth 100000 in
theorem c_x7_back {sc : xS} {d : Nat} {R : Rs} (N : Nat)  (hd : 4 ≤ d)   (s : St)  : d_x7_back N  s  = some R → vT sc d 79 0 [(0, .ref 0)] [] s (fun r => r = qI R) := by
  obtain ⟨d, rfl⟩ : ∃ d', d = d' + 1 := ⟨d - 1, by omega⟩
  unfold d_x7_back
  refine vLan 1 i79_0 rfl rfl ?_
  refine vGet 4 i79_1 f79_72 sh_0 rfl rfl ?_
  refine vZne 10 7 rfl i79_4 rfl rfl ?_ ?_
  · refine vLan 11 i79_10 rfl rfl ?_
    refine vGetC 14 i79_11 f79_28 sh_0 rfl rfl ?_
    refine vLan 15 i79_14 rfl rfl ?_
    refine vGetC 18 i79_15 f79_62 sh_0 rfl rfl ?_
    refine vCallV 21 [.ref 17, .ref 56] [] [(0, .ref 17), (1, .ref 56)] i79_18 rfl (xlk0 l79_244) (Or.inl rfl) m68 rfl rfl (Nat.le_of_ble_eq_true rfl) (Nat.le_of_ble_eq_true rfl) (Nat.le_of_ble_eq_true rfl) (xh0 sh_17 (by decide)) rfl rfl (fun R1 => c_x5_takeAll N 17 8 56 8 isTexts_17 isTexts_56 (by omega) s ) (fun s1 => ?_)
    refine vLan 22 i79_21 rfl rfl ?_
    refine vGetC 25 i79_22 f79_35 sh_0 rfl rfl ?_
    refine vLan 26 i79_25 rfl rfl ?_
    refine vGetC 29 i79_26 f79_65 sh_0 rfl rfl ?_
    refine vCallV 32 [.ref 26, .ref 65] [] [(0, .ref 26), (1, .ref 65)] i79_29 rfl (xlk0 l79_183) (Or.inl rfl) m75 rfl rfl (Nat.le_of_ble_eq_true rfl) (Nat.le_of_ble_eq_true rfl) (Nat.le_of_ble_eq_true rfl) (xh0 sh_26 (by decide)) rfl rfl (fun R1 => c_x6_takeAll N 26 65 isTold_26 isTold_65 (by omega) s1 ) (fun s3 => ?_)
    refine vLan 33 i79_32 rfl rfl ?_
    refine vLan 34 i79_33 rfl rfl ?_
    refine vGet 37 i79_34 f79_68 sh_0 rfl rfl ?_
    refine vPut 40 i79_37 p79_76 sh_0 rfl rfl (fun s5 => ?_)
    refine vLan 41 i79_40 rfl rfl ?_
    refine vGetC 44 i79_41 f79_28 sh_0 rfl rfl ?_
    refine vCallI 47 [.ref 17] [] [(0, .ref 17)] i79_44 rfl (xlk0 l79_247) (Or.inl rfl) m64 rfl rfl (Nat.le_of_ble_eq_true rfl) (Nat.le_of_ble_eq_true rfl) (Nat.le_of_ble_eq_true rfl) (xh0 sh_17 (by decide)) rfl rfl (fun R1 => c_x5_filledStreams N 17 8 isTexts_17 (by omega) s5 ) (fun s6 v7 => ?_)
    exact vRi i79_47 m79 rfl
  · refine vKb 9 i79_7 (by decide) rfl ?_
    exact vRi i79_9 m79 rfl
theorem f81_76 : xFld xg 81 76 = some (6, 12) := by decide +kernel
theorem f81_10 : xFld xg 81 10 = some (6, 0) := by decide +kernel
theorem f81_253 : xFld xg 81 253 = some (1, 1) := by decide +kernel
theorem f81_79 : xFld xg 81 79 = some (6, 13) := by decide +kernel
theorem f81_35 : xFld xg 81 35 = some (6, 3) := by decide +kernel
theorem f81_28 : xFld xg 81 28 = some (6, 2) := by decide +kernel
theorem i81_0 : xIns xg 81 0 = some (.iload_n 1) := by decide +kernel
theorem i81_1 : xIns xg 81 1 = some (.tableswitch 93 0 6 #[43, 51, 59, 67, 75, 80, 88]) := by decide +kernel
theorem i81_44 : xIns xg 81 44 = some (.aload_n 0) := by decide +kernel
theorem i81_45 : xIns xg 81 45 = some (.getfield 28) := by decide +kernel
theorem i81_48 : xIns xg 81 48 = some (.invokevirtual 247) := by decide +kernel
theorem i81_51 : xIns xg 81 51 = some (.ireturn) := by decide +kernel
theorem m81 : (xMet xg 81).2.2 = (2, (some .int)) := by decide +kernel
theorem i81_52 : xIns xg 81 52 = some (.aload_n 0) := by decide +kernel
theorem i81_53 : xIns xg 81 53 = some (.getfield 28) := by decide +kernel
theorem i81_56 : xIns xg 81 56 = some (.invokevirtual 250) := by decide +kernel
theorem i81_59 : xIns xg 81 59 = some (.ireturn) := by decide +kernel
theorem i81_60 : xIns xg 81 60 = some (.aload_n 0) := by decide +kernel
theorem i81_61 : xIns xg 81 61 = some (.getfield 35) := by decide +kernel
theorem i81_64 : xIns xg 81 64 = some (.invokevirtual 190) := by decide +kernel
theorem i81_67 : xIns xg 81 67 = some (.ireturn) := by decide +kernel
theorem i81_68 : xIns xg 81 68 = some (.aload_n 0) := by decide +kernel
theorem i81_69 : xIns xg 81 69 = some (.getfield 35) := by decide +kernel
theorem i81_72 : xIns xg 81 72 = some (.invokevirtual 193) := by decide +kernel
theorem i81_75 : xIns xg 81 75 = some (.ireturn) := by decide +kernel
theorem i81_76 : xIns xg 81 76 = some (.aload_n 0) := by decide +kernel
theorem i81_77 : xIns xg 81 77 = some (.getfield 79) := by decide +kernel
theorem i81_80 : xIns xg 81 80 = some (.ireturn) := by decide +kernel
theorem i81_81 : xIns xg 81 81 = some (.aload_n 0) := by decide +kernel
theorem i81_82 : xIns xg 81 82 = some (.getfield 10) := by decide +kernel
theorem i81_85 : xIns xg 81 85 = some (.getfield 253) := by decide +kernel
theorem i81_88 : xIns xg 81 88 = some (.ireturn) := by decide +kernel
theorem i81_89 : xIns xg 81 89 = some (.aload_n 0) := by decide +kernel
theorem i81_90 : xIns xg 81 90 = some (.getfield 76) := by decide +kernel
theorem i81_93 : xIns xg 81 93 = some (.ireturn) := by decide +kernel
theorem i81_94 : xIns xg 81 94 = some (.bipush (-2)) := by decide +kernel
theorem i81_96 : xIns xg 81 96 = some (.ireturn) := by decide +kernel
def d_x7_count (N : Nat)  (s : St) (a0 : Int) : Option Rs :=
  (if (w32 a0) = 0 then bI (d_x5_filledStreams N 17 8 s ) fun s1 v2 => some (s1, v2) else (if (w32 a0) = 1 then bI (d_x5_allParts N 17 8 s ) fun s3 v4 => some (s3, v4) else (if (w32 a0) = 2 then bI (d_x6_allPlaces N 26 s ) fun s5 v6 => some (s5, v6) else (if (w32 a0) = 3 then bI (d_x6_allHeads N 26 s ) fun s7 v8 => some (s7, v8) else (if (w32 a0) = 4 then some (s, (s 0 13)) else (if (w32 a0) = 5 then some (s, (s 1 1)) else (if (w32 a0) = 6 then some (s, (s 0 12)) else some (s, (-2)))))))))
set_option maxHeartbeats 4000000 in
set_option maxRecDepth 100000 in
theorem c_x7_count {sc : xS} {d : Nat} {R : Rs} (N : Nat)  (hd : 1 ≤ d)   (s : St) (a0 : Int) : d_x7_count N  s a0 = some R → vT sc d 81 0 [(0, .ref 0), (1, vi a0)] [] s (fun r => r = qI R) := by
  obtain ⟨d, rfl⟩ : ∃ d', d = d' + 1 := ⟨d - 1, by omega⟩
  unfold d_x7_count
  refine vLin 1 i81_0 rfl rfl ?_
  refine vSw 44 (v := 0) rfl i81_1 rfl rfl ?_ (fun h0 => ?_)
  · refine vLan 45 i81_44 rfl rfl ?_
    refine vGetC 48 i81_45 f81_28 sh_0 rfl rfl ?_
    refine vCallI 51 [.ref 17] [] [(0, .ref 17)] i81_48 rfl (xlk0 l81_247) (Or.inl rfl) m64 rfl rfl (Nat.le_of_ble_eq_true rfl) (Nat.le_of_ble_eq_true rfl) (Nat.le_of_ble_eq_true rfl) (xh0 sh_17 (by decide)) rfl rfl (fun R1 => c_x5_filledStreams N 17 8 isTexts_17 (by omega) s ) (fun s1 v2 => ?_)
    exact vRi i81_51 m81 rfl
  refine vSw 52 (v := 1) rfl i81_1 rfl rfl ?_ (fun h1 => ?_)
  · refine vLan 53 i81_52 rfl rfl ?_
    refine vGetC 56 i81_53 f81_28 sh_0 rfl rfl ?_
    refine vCallI 59 [.ref 17] [] [(0, .ref 17)] i81_56 rfl (xlk0 l81_250) (Or.inl rfl) m61 rfl rfl (Nat.le_of_ble_eq_true rfl) (Nat.le_of_ble_eq_true rfl) (Nat.le_of_ble_eq_true rfl) (xh0 sh_17 (by decide)) rfl rfl (fun R1 => c_x5_allParts N 17 8 isTexts_17 (by omega) s ) (fun s3 v4 => ?_)
    exact vRi i81_59 m81 rfl
  refine vSw 60 (v := 2) rfl i81_1 rfl rfl ?_ (fun h2 => ?_)
  · refine vLan 61 i81_60 rfl rfl ?_
    refine vGetC 64 i81_61 f81_35 sh_0 rfl rfl ?_
    refine vCallI 67 [.ref 26] [] [(0, .ref 26)] i81_64 rfl (xlk0 l81_190) (Or.inl rfl) m72 rfl rfl (Nat.le_of_ble_eq_true rfl) (Nat.le_of_ble_eq_true rfl) (Nat.le_of_ble_eq_true rfl) (xh0 sh_26 (by decide)) rfl rfl (fun R1 => c_x6_allPlaces N 26 isTold_26 (by omega) s ) (fun s5 v6 => ?_)
    exact vRi i81_67 m81 rfl
  refine vSw 68 (v := 3) rfl i81_1 rfl rfl ?_ (fun h3 => ?_)
  · refine vLan 69 i81_68 rfl rfl ?_
    refine vGetC 72 i81_69 f81_35 sh_0 rfl rfl ?_
    refine vCallI 75 [.ref 26] [] [(0, .ref 26)] i81_72 rfl (xlk0 l81_193) (Or.inl rfl) m71 rfl rfl (Nat.le_of_ble_eq_true rfl) (Nat.le_of_ble_eq_true rfl) (Nat.le_of_ble_eq_true rfl) (xh0 sh_26 (by decide)) rfl rfl (fun R1 => c_x6_allHeads N 26 isTold_26 (by omega) s ) (fun s7 v8 => ?_)
    exact vRi i81_75 m81 rfl
  refine vSw 76 (v := 4) rfl i81_1 rfl rfl ?_ (fun h4 => ?_)
  · refine vLan 77 i81_76 rfl rfl ?_
    refine vGet 80 i81_77 f81_79 sh_0 rfl rfl ?_
    exact vRi i81_80 m81 rfl
  refine vSw 81 (v := 5) rfl i81_1 rfl rfl ?_ (fun h5 => ?_)
  · refine vLan 82 i81_81 rfl rfl ?_
    refine vGetC 85 i81_82 f81_10 sh_0 rfl rfl ?_
    refine vGet 88 i81_85 f81_253 sh_1 rfl rfl ?_
    exact vRi i81_88 m81 rfl
  refine vSw 89 (v := 6) rfl i81_1 rfl rfl ?_ (fun h6 => ?_)
  · refine vLan 90 i81_89 rfl rfl ?_
    refine vGet 93 i81_90 f81_76 sh_0 rfl rfl ?_
    exact vRi i81_93 m81 rfl
  refine vSwD 94 i81_1 (by omega) rfl ?_
  refine vKb 96 i81_94 (by decide) rfl ?_
  exact vRi i81_96 m81 rfl
theorem f111_54 : xFld xg 111 54 = some (6, 6) := by decide +kernel
theorem i111_0 : xIns xg 111 0 = some (.iload_n 1) := by decide +kernel
theorem i111_1 : xIns xg 111 1 = some (.invokestatic 215) := by decide +kernel
theorem i111_4 : xIns xg 111 4 = some (.ifCond .eq 13) := by decide +kernel
theorem i111_17 : xIns xg 111 17 = some (.bipush (-2)) := by decide +kernel
theorem i111_19 : xIns xg 111 19 = some (.ireturn) := by decide +kernel
theorem m111 : (xMet xg 111).2.2 = (4, (some .int)) := by decide +kernel
theorem i111_7 : xIns xg 111 7 = some (.iload_n 2) := by decide +kernel
theorem i111_8 : xIns xg 111 8 = some (.iconst (-1)) := by decide +kernel
theorem i111_9 : xIns xg 111 9 = some (.if_icmp .lt 8) := by decide +kernel
theorem i111_12 : xIns xg 111 12 = some (.iload_n 2) := by decide +kernel
theorem i111_13 : xIns xg 111 13 = some (.iconst 2) := by decide +kernel
theorem i111_14 : xIns xg 111 14 = some (.if_icmp .le 6) := by decide +kernel
theorem i111_20 : xIns xg 111 20 = some (.iload_n 2) := by decide +kernel
theorem i111_21 : xIns xg 111 21 = some (.iconst (-1)) := by decide +kernel
theorem i111_22 : xIns xg 111 22 = some (.if_icmp .ne 15) := by decide +kernel
theorem i111_37 : xIns xg 111 37 = some (.iload_n 3) := by decide +kernel
theorem i111_38 : xIns xg 111 38 = some (.bipush 40) := by decide +kernel
theorem i111_40 : xIns xg 111 40 = some (.if_icmp .le 6) := by decide +kernel
theorem i111_46 : xIns xg 111 46 = some (.iload_n 3) := by decide +kernel
theorem i111_47 : xIns xg 111 47 = some (.ifCond .ge 6) := by decide +kernel
theorem i111_53 : xIns xg 111 53 = some (.aload_n 0) := by decide +kernel
theorem i111_54 : xIns xg 111 54 = some (.getfield 54) := by decide +kernel
theorem i111_57 : xIns xg 111 57 = some (.iload_n 1) := by decide +kernel
theorem i111_58 : xIns xg 111 58 = some (.iload_n 2) := by decide +kernel
theorem i111_59 : xIns xg 111 59 = some (.iload_n 3) := by decide +kernel
theorem i111_60 : xIns xg 111 60 = some (.invokevirtual 222) := by decide +kernel
theorem i111_63 : xIns xg 111 63 = some (.iconst 1) := by decide +kernel
theorem i111_64 : xIns xg 111 64 = some (.ireturn) := by decide +kernel
theorem i111_50 : xIns xg 111 50 = some (.bipush (-14)) := by decide +kernel
theorem i111_52 : xIns xg 111 52 = some (.ireturn) := by decide +kernel
theorem i111_43 : xIns xg 111 43 = some (.bipush (-2)) := by decide +kernel
theorem i111_45 : xIns xg 111 45 = some (.ireturn) := by decide +kernel
theorem i111_25 : xIns xg 111 25 = some (.aload_n 0) := by decide +kernel
theorem i111_26 : xIns xg 111 26 = some (.getfield 54) := by decide +kernel
theorem i111_29 : xIns xg 111 29 = some (.iload_n 1) := by decide +kernel
theorem i111_30 : xIns xg 111 30 = some (.iconst (-1)) := by decide +kernel
theorem i111_31 : xIns xg 111 31 = some (.iconst 0) := by decide +kernel
theorem i111_32 : xIns xg 111 32 = some (.invokevirtual 222) := by decide +kernel
theorem i111_35 : xIns xg 111 35 = some (.iconst 1) := by decide +kernel
theorem i111_36 : xIns xg 111 36 = some (.ireturn) := by decide +kernel
def d_x7_sheet (N : Nat)  (s : St) (a0 : Int) (a1 : Int) (a2 : Int) : Option Rs :=
  bI (d_x7_isSheet N  s a0) fun s1 v2 => (if (w32 v2) = 0 then some (s1, (-2)) else (if (w32 a1) < (-1) then some (s1, (-2)) else (if 2 < (w32 a1) then some (s1, (-2)) else (if (w32 a1) = (-1) then bV (d_x3_renew N  s1 a0 (-1) 0) fun s5 => some (s5, 1) else (if 40 < (w32 a2) then some (s1, (-2)) else (if (w32 a2) < 0 then some (s1, (-14)) else bV (d_x3_renew N  s1 a0 a1 a2) fun s3 => some (s3, 1)))))))
set_option maxHeartbeats 4000000 in
set_option maxRecDepth 100000 in
theorem c_x7_sheet {sc : xS} {d : Nat} {R : Rs} (N : Nat)  (hd : 1 ≤ d)   (s : St) (a0 : Int) (a1 : Int) (a2 : Int) : d_x7_sheet N  s a0 a1 a2 = some R → vT sc d 111 0 [(0, .ref 0), (1, vi a0), (2, vi a1), (3, vi a2)] [] s (fun r => r = qI R) := by
  obtain ⟨d, rfl⟩ : ∃ d', d = d' + 1 := ⟨d - 1, by omega⟩
  unfold d_x7_sheet
  refine vLin 1 i111_0 rfl rfl ?_
  refine vCallI 4 [vi a0] [] [(0, vi a0)] i111_1 rfl (xlk1 l111_215) (Or.inr (Or.inl rfl)) m97 rfl rfl (Nat.le_of_ble_eq_true rfl) (Nat.le_of_ble_eq_true rfl) (Nat.le_of_ble_eq_true rfl) rfl rfl rfl (fun R1 => c_x7_isSheet N   (by omega) s a0) (fun s1 v2 => ?_)
  refine vZeq 17 7 rfl i111_4 rfl rfl ?_ ?_
  · refine vKb 19 i111_17 (by decide) rfl ?_
    exact vRi i111_19 m111 rfl
  · refine vLin 8 i111_7 rfl rfl ?_
    refine vK 9 i111_8 rfl ?_
    refine vClt 17 12 rfl (show w32 (-1) = (-1) from rfl) i111_9 rfl rfl ?_ ?_
    · refine vKb 19 i111_17 (by decide) rfl ?_
      exact vRi i111_19 m111 rfl
    · refine vLin 13 i111_12 rfl rfl ?_
      refine vK 14 i111_13 rfl ?_
      refine vCle 20 17 rfl (show w32 2 = 2 from rfl) i111_14 rfl rfl ?_ ?_
      · refine vLin 21 i111_20 rfl rfl ?_
        refine vK 22 i111_21 rfl ?_
        refine vCne 37 25 rfl (show w32 (-1) = (-1) from rfl) i111_22 rfl rfl ?_ ?_
        · refine vLin 38 i111_37 rfl rfl ?_
          refine vKb 40 i111_38 (by decide) rfl ?_
          refine vCle 46 43 rfl (show w32 40 = 40 from rfl) i111_40 rfl rfl ?_ ?_
          · refine vLin 47 i111_46 rfl rfl ?_
            refine vZge 53 50 rfl i111_47 rfl rfl ?_ ?_
            · refine vLan 54 i111_53 rfl rfl ?_
              refine vGetC 57 i111_54 f111_54 sh_0 rfl rfl ?_
              refine vLin 58 i111_57 rfl rfl ?_
              refine vLin 59 i111_58 rfl rfl ?_
              refine vLin 60 i111_59 rfl rfl ?_
              refine vCallV 63 [.ref 51, vi a0, vi a1, vi a2] [] [(0, .ref 51), (1, vi a0), (2, vi a1), (3, vi a2)] i111_60 rfl (xlk0 l111_222) (Or.inl rfl) m36 rfl rfl (Nat.le_of_ble_eq_true rfl) (Nat.le_of_ble_eq_true rfl) (Nat.le_of_ble_eq_true rfl) (xh0 sh_51 (by decide)) rfl rfl (fun R1 => c_x3_renew N   (by omega) s1 a0 a1 a2) (fun s3 => ?_)
              refine vK 64 i111_63 rfl ?_
              exact vRi i111_64 m111 rfl
            · refine vKb 52 i111_50 (by decide) rfl ?_
              exact vRi i111_52 m111 rfl
          · refine vKb 45 i111_43 (by decide) rfl ?_
            exact vRi i111_45 m111 rfl
        · refine vLan 26 i111_25 rfl rfl ?_
          refine vGetC 29 i111_26 f111_54 sh_0 rfl rfl ?_
          refine vLin 30 i111_29 rfl rfl ?_
          refine vK 31 i111_30 rfl ?_
          refine vK 32 i111_31 rfl ?_
          refine vCallV 35 [.ref 51, vi a0, vi (-1), vi 0] [] [(0, .ref 51), (1, vi a0), (2, vi (-1)), (3, vi 0)] i111_32 rfl (xlk0 l111_222) (Or.inl rfl) m36 rfl rfl (Nat.le_of_ble_eq_true rfl) (Nat.le_of_ble_eq_true rfl) (Nat.le_of_ble_eq_true rfl) (xh0 sh_51 (by decide)) rfl rfl (fun R1 => c_x3_renew N   (by omega) s1 a0 (-1) 0) (fun s5 => ?_)
          refine vK 36 i111_35 rfl ?_
          exact vRi i111_36 m111 rfl
      · refine vKb 19 i111_17 (by decide) rfl ?_
        exact vRi i111_19 m111 rfl
theorem f107_54 : xFld xg 107 54 = some (6, 6) := by decide +kernel
theorem i107_0 : xIns xg 107 0 = some (.iload_n 1) := by decide +kernel
theorem i107_1 : xIns xg 107 1 = some (.invokestatic 215) := by decide +kernel
theorem i107_4 : xIns xg 107 4 = some (.ifCond .ne 6) := by decide +kernel
theorem i107_10 : xIns xg 107 10 = some (.aload_n 0) := by decide +kernel
theorem i107_11 : xIns xg 107 11 = some (.getfield 54) := by decide +kernel
theorem i107_14 : xIns xg 107 14 = some (.iload_n 1) := by decide +kernel
theorem i107_15 : xIns xg 107 15 = some (.invokevirtual 233) := by decide +kernel
theorem i107_18 : xIns xg 107 18 = some (.ifCond .eq 6) := by decide +kernel
theorem i107_24 : xIns xg 107 24 = some (.aload_n 0) := by decide +kernel
theorem i107_25 : xIns xg 107 25 = some (.getfield 54) := by decide +kernel
theorem i107_28 : xIns xg 107 28 = some (.iload_n 1) := by decide +kernel
theorem i107_29 : xIns xg 107 29 = some (.iload_n 2) := by decide +kernel
theorem i107_30 : xIns xg 107 30 = some (.iconst 1) := by decide +kernel
theorem i107_31 : xIns xg 107 31 = some (.invokevirtual 254) := by decide +kernel
theorem i107_34 : xIns xg 107 34 = some (.ifCond .ne 6) := by decide +kernel
theorem i107_40 : xIns xg 107 40 = some (.aload_n 0) := by decide +kernel
theorem i107_41 : xIns xg 107 41 = some (.getfield 54) := by decide +kernel
theorem i107_44 : xIns xg 107 44 = some (.iload_n 1) := by decide +kernel
theorem i107_45 : xIns xg 107 45 = some (.iload_n 2) := by decide +kernel
theorem i107_46 : xIns xg 107 46 = some (.lload_n 3) := by decide +kernel
theorem i107_47 : xIns xg 107 47 = some (.invokevirtual 226) := by decide +kernel
theorem i107_50 : xIns xg 107 50 = some (.iconst 1) := by decide +kernel
theorem i107_51 : xIns xg 107 51 = some (.ireturn) := by decide +kernel
theorem m107 : (xMet xg 107).2.2 = (5, (some .int)) := by decide +kernel
theorem i107_37 : xIns xg 107 37 = some (.bipush (-12)) := by decide +kernel
theorem i107_39 : xIns xg 107 39 = some (.ireturn) := by decide +kernel
theorem i107_21 : xIns xg 107 21 = some (.bipush (-11)) := by decide +kernel
theorem i107_23 : xIns xg 107 23 = some (.ireturn) := by decide +kernel
theorem i107_7 : xIns xg 107 7 = some (.bipush (-2)) := by decide +kernel
theorem i107_9 : xIns xg 107 9 = some (.ireturn) := by decide +kernel
def d_x7_put (N : Nat)  (s : St) (a0 : Int) (a1 : Int) (a2 : Int) : Option Rs :=
  bI (d_x7_isSheet N  s a0) fun s1 v2 => (if (w32 v2) = 0 then some (s1, (-2)) else bI (d_x3_isMissing N  s1 a0) fun s3 v4 => (if (w32 v4) = 0 then bI (d_x3_spans N  s3 a0 a1 1) fun s5 v6 => (if (w32 v6) = 0 then some (s5, (-12)) else bV (d_x3_write N  s5 a0 a1 a2) fun s7 => some (s7, 1)) else some (s3, (-11))))
set_option maxHeartbeats 4000000 in
set_option maxRecDepth 100000 in
theorem c_x7_put {sc : xS} {d : Nat} {R : Rs} (N : Nat)  (hd : 1 ≤ d)   (s : St) (a0 : Int) (a1 : Int) (a2 : Int) : d_x7_put N  s a0 a1 a2 = some R → vT sc d 107 0 [(0, .ref 0), (1, vi a0), (2, vi a1), (3, vl a2)] [] s (fun r => r = qI R) := by
  obtain ⟨d, rfl⟩ : ∃ d', d = d' + 1 := ⟨d - 1, by omega⟩
  unfold d_x7_put
  refine vLin 1 i107_0 rfl rfl ?_
  refine vCallI 4 [vi a0] [] [(0, vi a0)] i107_1 rfl (xlk1 l107_215) (Or.inr (Or.inl rfl)) m97 rfl rfl (Nat.le_of_ble_eq_true rfl) (Nat.le_of_ble_eq_true rfl) (Nat.le_of_ble_eq_true rfl) rfl rfl rfl (fun R1 => c_x7_isSheet N   (by omega) s a0) (fun s1 v2 => ?_)
  refine vZne 10 7 rfl i107_4 rfl rfl ?_ ?_
  · refine vLan 11 i107_10 rfl rfl ?_
    refine vGetC 14 i107_11 f107_54 sh_0 rfl rfl ?_
    refine vLin 15 i107_14 rfl rfl ?_
    refine vCallI 18 [.ref 51, vi a0] [] [(0, .ref 51), (1, vi a0)] i107_15 rfl (xlk0 l107_233) (Or.inl rfl) m33 rfl rfl (Nat.le_of_ble_eq_true rfl) (Nat.le_of_ble_eq_true rfl) (Nat.le_of_ble_eq_true rfl) (xh0 sh_51 (by decide)) rfl rfl (fun R1 => c_x3_isMissing N   (by omega) s1 a0) (fun s3 v4 => ?_)
    refine vZeq 24 21 rfl i107_18 rfl rfl ?_ ?_
    · refine vLan 25 i107_24 rfl rfl ?_
      refine vGetC 28 i107_25 f107_54 sh_0 rfl rfl ?_
      refine vLin 29 i107_28 rfl rfl ?_
      refine vLin 30 i107_29 rfl rfl ?_
      refine vK 31 i107_30 rfl ?_
      refine vCallI 34 [.ref 51, vi a0, vi a1, vi 1] [] [(0, .ref 51), (1, vi a0), (2, vi a1), (3, vi 1)] i107_31 rfl (xlk0 l107_254) (Or.inl rfl) m37 rfl rfl (Nat.le_of_ble_eq_true rfl) (Nat.le_of_ble_eq_true rfl) (Nat.le_of_ble_eq_true rfl) (xh0 sh_51 (by decide)) rfl rfl (fun R1 => c_x3_spans N   (by omega) s3 a0 a1 1) (fun s5 v6 => ?_)
      refine vZne 40 37 rfl i107_34 rfl rfl ?_ ?_
      · refine vLan 41 i107_40 rfl rfl ?_
        refine vGetC 44 i107_41 f107_54 sh_0 rfl rfl ?_
        refine vLin 45 i107_44 rfl rfl ?_
        refine vLin 46 i107_45 rfl rfl ?_
        refine vLln 47 i107_46 rfl rfl ?_
        refine vCallV 50 [.ref 51, vi a0, vi a1, vl a2] [] [(0, .ref 51), (1, vi a0), (2, vi a1), (3, vl a2)] i107_47 rfl (xlk0 l107_226) (Or.inl rfl) m38 rfl rfl (Nat.le_of_ble_eq_true rfl) (Nat.le_of_ble_eq_true rfl) (Nat.le_of_ble_eq_true rfl) (xh0 sh_51 (by decide)) rfl rfl (fun R1 => c_x3_write N   (by omega) s5 a0 a1 a2) (fun s7 => ?_)
        refine vK 51 i107_50 rfl ?_
        exact vRi i107_51 m107 rfl
      · refine vKb 39 i107_37 (by decide) rfl ?_
        exact vRi i107_39 m107 rfl
    · refine vKb 23 i107_21 (by decide) rfl ?_
      exact vRi i107_23 m107 rfl
  · refine vKb 9 i107_7 (by decide) rfl ?_
    exact vRi i107_9 m107 rfl
theorem f100_54 : xFld xg 100 54 = some (6, 6) := by decide +kernel
theorem i100_0 : xIns xg 100 0 = some (.iload_n 1) := by decide +kernel
theorem i100_1 : xIns xg 100 1 = some (.invokestatic 215) := by decide +kernel
theorem i100_4 : xIns xg 100 4 = some (.ifCond .eq 27) := by decide +kernel
theorem i100_31 : xIns xg 100 31 = some (.ldc2_w 133) := by decide +kernel
theorem c100_133 : xCon xg 100 133 = some (vl (-4611686018427387904)) := by decide +kernel
theorem i100_34 : xIns xg 100 34 = some (.lreturn) := by decide +kernel
theorem m100 : (xMet xg 100).2.2 = (3, (some .long)) := by decide +kernel
theorem i100_7 : xIns xg 100 7 = some (.aload_n 0) := by decide +kernel
theorem i100_8 : xIns xg 100 8 = some (.getfield 54) := by decide +kernel
theorem i100_11 : xIns xg 100 11 = some (.iload_n 1) := by decide +kernel
theorem i100_12 : xIns xg 100 12 = some (.invokevirtual 233) := by decide +kernel
theorem i100_15 : xIns xg 100 15 = some (.ifCond .ne 16) := by decide +kernel
theorem i100_18 : xIns xg 100 18 = some (.aload_n 0) := by decide +kernel
theorem i100_19 : xIns xg 100 19 = some (.getfield 54) := by decide +kernel
theorem i100_22 : xIns xg 100 22 = some (.iload_n 1) := by decide +kernel
theorem i100_23 : xIns xg 100 23 = some (.iload_n 2) := by decide +kernel
theorem i100_24 : xIns xg 100 24 = some (.iconst 1) := by decide +kernel
theorem i100_25 : xIns xg 100 25 = some (.invokevirtual 254) := by decide +kernel
theorem i100_28 : xIns xg 100 28 = some (.ifCond .ne 7) := by decide +kernel
theorem i100_35 : xIns xg 100 35 = some (.aload_n 0) := by decide +kernel
theorem i100_36 : xIns xg 100 36 = some (.getfield 54) := by decide +kernel
theorem i100_39 : xIns xg 100 39 = some (.iload_n 1) := by decide +kernel
theorem i100_40 : xIns xg 100 40 = some (.iload_n 2) := by decide +kernel
theorem i100_41 : xIns xg 100 41 = some (.invokevirtual 258) := by decide +kernel
theorem i100_44 : xIns xg 100 44 = some (.lreturn) := by decide +kernel
def d_x7_item (N : Nat)  (s : St) (a0 : Int) (a1 : Int) : Option Rs :=
  bI (d_x7_isSheet N  s a0) fun s1 v2 => (if (w32 v2) = 0 then some (s1, (-4611686018427387904)) else bI (d_x3_isMissing N  s1 a0) fun s3 v4 => (if (w32 v4) = 0 then bI (d_x3_spans N  s3 a0 a1 1) fun s5 v6 => (if (w32 v6) = 0 then some (s5, (-4611686018427387904)) else bI (d_x3_read N  s5 a0 a1) fun s7 v8 => some (s7, v8)) else some (s3, (-4611686018427387904))))
set_option maxHeartbeats 4000000 in
set_option maxRecDepth 100000 in
theorem c_x7_item {sc : xS} {d : Nat} {R : Rs} (N : Nat)  (hd : 1 ≤ d)   (s : St) (a0 : Int) (a1 : Int) : d_x7_item N  s a0 a1 = some R → vT sc d 100 0 [(0, .ref 0), (1, vi a0), (2, vi a1)] [] s (fun r => r = qL R) := by
  obtain ⟨d, rfl⟩ : ∃ d', d = d' + 1 := ⟨d - 1, by omega⟩
  unfold d_x7_item
  refine vLin 1 i100_0 rfl rfl ?_
  refine vCallI 4 [vi a0] [] [(0, vi a0)] i100_1 rfl (xlk1 l100_215) (Or.inr (Or.inl rfl)) m97 rfl rfl (Nat.le_of_ble_eq_true rfl) (Nat.le_of_ble_eq_true rfl) (Nat.le_of_ble_eq_true rfl) rfl rfl rfl (fun R1 => c_x7_isSheet N   (by omega) s a0) (fun s1 v2 => ?_)
  refine vZeq 31 7 rfl i100_4 rfl rfl ?_ ?_
  · refine vKd 34 i100_31 c100_133 rfl ?_
    exact vRl i100_34 m100
  · refine vLan 8 i100_7 rfl rfl ?_
    refine vGetC 11 i100_8 f100_54 sh_0 rfl rfl ?_
    refine vLin 12 i100_11 rfl rfl ?_
    refine vCallI 15 [.ref 51, vi a0] [] [(0, .ref 51), (1, vi a0)] i100_12 rfl (xlk0 l100_233) (Or.inl rfl) m33 rfl rfl (Nat.le_of_ble_eq_true rfl) (Nat.le_of_ble_eq_true rfl) (Nat.le_of_ble_eq_true rfl) (xh0 sh_51 (by decide)) rfl rfl (fun R1 => c_x3_isMissing N   (by omega) s1 a0) (fun s3 v4 => ?_)
    refine vZne 31 18 rfl i100_15 rfl rfl ?_ ?_
    · refine vKd 34 i100_31 c100_133 rfl ?_
      exact vRl i100_34 m100
    · refine vLan 19 i100_18 rfl rfl ?_
      refine vGetC 22 i100_19 f100_54 sh_0 rfl rfl ?_
      refine vLin 23 i100_22 rfl rfl ?_
      refine vLin 24 i100_23 rfl rfl ?_
      refine vK 25 i100_24 rfl ?_
      refine vCallI 28 [.ref 51, vi a0, vi a1, vi 1] [] [(0, .ref 51), (1, vi a0), (2, vi a1), (3, vi 1)] i100_25 rfl (xlk0 l100_254) (Or.inl rfl) m37 rfl rfl (Nat.le_of_ble_eq_true rfl) (Nat.le_of_ble_eq_true rfl) (Nat.le_of_ble_eq_true rfl) (xh0 sh_51 (by decide)) rfl rfl (fun R1 => c_x3_spans N   (by omega) s3 a0 a1 1) (fun s5 v6 => ?_)
      refine vZne 35 31 rfl i100_28 rfl rfl ?_ ?_
      · refine vLan 36 i100_35 rfl rfl ?_
        refine vGetC 39 i100_36 f100_54 sh_0 rfl rfl ?_
        refine vLin 40 i100_39 rfl rfl ?_
        refine vLin 41 i100_40 rfl rfl ?_
        refine vCallL 44 [.ref 51, vi a0, vi a1] [] [(0, .ref 51), (1, vi a0), (2, vi a1)] i100_41 rfl (xlk0 l100_258) (Or.inl rfl) m35 rfl rfl (Nat.le_of_ble_eq_true rfl) (Nat.le_of_ble_eq_true rfl) (Nat.le_of_ble_eq_true rfl) (xh0 sh_51 (by decide)) rfl rfl (fun R1 => c_x3_read N   (by omega) s5 a0 a1) (fun s7 v8 => ?_)
        exact vRl i100_44 m100
      · refine vKd 34 i100_31 c100_133 rfl ?_
        exact vRl i100_34 m100
theorem f80_54 : xFld xg 80 54 = some (6, 6) := by decide +kernel
theorem f80_261 : xFld xg 80 261 = some (2, 0) := by decide +kernel
theorem i80_0 : xIns xg 80 0 = some (.iload_n 1) := by decide +kernel
theorem i80_1 : xIns xg 80 1 = some (.invokestatic 215) := by decide +kernel
theorem i80_4 : xIns xg 80 4 = some (.ifCond .eq 10) := by decide +kernel
theorem i80_14 : xIns xg 80 14 = some (.bipush (-2)) := by decide +kernel
theorem i80_16 : xIns xg 80 16 = some (.ireturn) := by decide +kernel
theorem m80 : (xMet xg 80).2.2 = (6, (some .int)) := by decide +kernel
theorem i80_7 : xIns xg 80 7 = some (.iload_n 3) := by decide +kernel
theorem i80_8 : xIns xg 80 8 = some (.invokestatic 215) := by decide +kernel
theorem i80_11 : xIns xg 80 11 = some (.ifCond .ne 6) := by decide +kernel
theorem i80_17 : xIns xg 80 17 = some (.aload_n 0) := by decide +kernel
theorem i80_18 : xIns xg 80 18 = some (.getfield 54) := by decide +kernel
theorem i80_21 : xIns xg 80 21 = some (.iload_n 1) := by decide +kernel
theorem i80_22 : xIns xg 80 22 = some (.invokevirtual 233) := by decide +kernel
theorem i80_25 : xIns xg 80 25 = some (.ifCond .ne 14) := by decide +kernel
theorem i80_39 : xIns xg 80 39 = some (.bipush (-11)) := by decide +kernel
theorem i80_41 : xIns xg 80 41 = some (.ireturn) := by decide +kernel
theorem i80_28 : xIns xg 80 28 = some (.aload_n 0) := by decide +kernel
theorem i80_29 : xIns xg 80 29 = some (.getfield 54) := by decide +kernel
theorem i80_32 : xIns xg 80 32 = some (.iload_n 3) := by decide +kernel
theorem i80_33 : xIns xg 80 33 = some (.invokevirtual 233) := by decide +kernel
theorem i80_36 : xIns xg 80 36 = some (.ifCond .eq 6) := by decide +kernel
theorem i80_42 : xIns xg 80 42 = some (.aload_n 0) := by decide +kernel
theorem i80_43 : xIns xg 80 43 = some (.getfield 54) := by decide +kernel
theorem i80_46 : xIns xg 80 46 = some (.getfield 261) := by decide +kernel
theorem i80_49 : xIns xg 80 49 = some (.iload_n 1) := by decide +kernel
theorem i80_50 : xIns xg 80 50 = some (.iaload) := by decide +kernel
theorem i80_51 : xIns xg 80 51 = some (.aload_n 0) := by decide +kernel
theorem i80_52 : xIns xg 80 52 = some (.getfield 54) := by decide +kernel
theorem i80_55 : xIns xg 80 55 = some (.getfield 261) := by decide +kernel
theorem i80_58 : xIns xg 80 58 = some (.iload_n 3) := by decide +kernel
theorem i80_59 : xIns xg 80 59 = some (.iaload) := by decide +kernel
theorem i80_60 : xIns xg 80 60 = some (.if_icmp .eq 6) := by decide +kernel
theorem i80_66 : xIns xg 80 66 = some (.aload_n 0) := by decide +kernel
theorem i80_67 : xIns xg 80 67 = some (.getfield 54) := by decide +kernel
theorem i80_70 : xIns xg 80 70 = some (.iload_n 1) := by decide +kernel
theorem i80_71 : xIns xg 80 71 = some (.iload_n 2) := by decide +kernel
theorem i80_72 : xIns xg 80 72 = some (.iload 5) := by decide +kernel
theorem i80_74 : xIns xg 80 74 = some (.invokevirtual 254) := by decide +kernel
theorem i80_77 : xIns xg 80 77 = some (.ifCond .eq 18) := by decide +kernel
theorem i80_95 : xIns xg 80 95 = some (.bipush (-12)) := by decide +kernel
theorem i80_97 : xIns xg 80 97 = some (.ireturn) := by decide +kernel
theorem i80_80 : xIns xg 80 80 = some (.aload_n 0) := by decide +kernel
theorem i80_81 : xIns xg 80 81 = some (.getfield 54) := by decide +kernel
theorem i80_84 : xIns xg 80 84 = some (.iload_n 3) := by decide +kernel
theorem i80_85 : xIns xg 80 85 = some (.iload 4) := by decide +kernel
theorem i80_87 : xIns xg 80 87 = some (.iload 5) := by decide +kernel
theorem i80_89 : xIns xg 80 89 = some (.invokevirtual 254) := by decide +kernel
theorem i80_92 : xIns xg 80 92 = some (.ifCond .ne 6) := by decide +kernel
theorem i80_98 : xIns xg 80 98 = some (.aload_n 0) := by decide +kernel
theorem i80_99 : xIns xg 80 99 = some (.getfield 54) := by decide +kernel
theorem i80_102 : xIns xg 80 102 = some (.iload_n 1) := by decide +kernel
theorem i80_103 : xIns xg 80 103 = some (.iload_n 2) := by decide +kernel
theorem i80_104 : xIns xg 80 104 = some (.iload_n 3) := by decide +kernel
theorem i80_105 : xIns xg 80 105 = some (.iload 4) := by decide +kernel
theorem i80_107 : xIns xg 80 107 = some (.iload 5) := by decide +kernel
theorem i80_109 : xIns xg 80 109 = some (.invokevirtual 264) := by decide +kernel
theorem i80_112 : xIns xg 80 112 = some (.iload 5) := by decide +kernel
theorem i80_114 : xIns xg 80 114 = some (.ireturn) := by decide +kernel
theorem i80_63 : xIns xg 80 63 = some (.bipush (-13)) := by decide +kernel
theorem i80_65 : xIns xg 80 65 = some (.ireturn) := by decide +kernel
def d_x7_copy (N : Nat)  (s : St) (a0 : Int) (a1 : Int) (a2 : Int) (a3 : Int) (a4 : Int) : Option Rs :=
  bI (d_x7_isSheet N  s a0) fun s1 v2 => (if (w32 v2) = 0 then some (s1, (-2)) else bI (d_x7_isSheet N  s1 a2) fun s3 v4 => (if (w32 v4) = 0 then some (s3, (-2)) else bI (d_x3_isMissing N  s3 a0) fun s5 v6 => (if (w32 v6) = 0 then bI (d_x3_isMissing N  s5 a2) fun s7 v8 => (if (w32 v8) = 0 then if 0 ≤ (w32 a0) ∧ (w32 a0) < ((4 : Nat) : Int) then if 0 ≤ (w32 a2) ∧ (w32 a2) < ((4 : Nat) : Int) then (if (w32 (s7 52 (Int.toNat (w32 a0)))) = (w32 (s7 52 (Int.toNat (w32 a2)))) then bI (d_x3_spans N  s7 a0 a1 a4) fun s9 v10 => (if (w32 v10) = 0 then some (s9, (-12)) else bI (d_x3_spans N  s9 a2 a3 a4) fun s11 v12 => (if (w32 v12) = 0 then some (s11, (-12)) else bV (d_x3_move N  s11 a0 a1 a2 a3 a4) fun s13 => some (s13, a4))) else some (s7, (-13))) else none else none else some (s7, (-11))) else some (s5, (-11)))))
set_option maxHeartbeats 4000000 in
set_option maxRecDepth 100000 in
theorem c_x7_copy {sc : xS} {d : Nat} {R : Rs} (N : Nat)  (hd : 2 ≤ d)   (s : St) (a0 : Int) (a1 : Int) (a2 : Int) (a3 : Int) (a4 : Int) : d_x7_copy N  s a0 a1 a2 a3 a4 = some R → vT sc d 80 0 [(0, .ref 0), (1, vi a0), (2, vi a1), (3, vi a2), (4, vi a3), (5, vi a4)] [] s (fun r => r = qI R) := by
  obtain ⟨d, rfl⟩ : ∃ d', d = d' + 1 := ⟨d - 1, by omega⟩
  unfold d_x7_copy
  refine vLin 1 i80_0 rfl rfl ?_
  refine vCallI 4 [vi a0] [] [(0, vi a0)] i80_1 rfl (xlk1 l80_215) (Or.inr (Or.inl rfl)) m97 rfl rfl (Nat.le_of_ble_eq_true rfl) (Nat.le_of_ble_eq_true rfl) (Nat.le_of_ble_eq_true rfl) rfl rfl rfl (fun R1 => c_x7_isSheet N   (by omega) s a0) (fun s1 v2 => ?_)
  refine vZeq 14 7 rfl i80_4 rfl rfl ?_ ?_
  · refine vKb 16 i80_14 (by decide) rfl ?_
    exact vRi i80_16 m80 rfl
  · refine vLin 8 i80_7 rfl rfl ?_
    refine vCallI 11 [vi a2] [] [(0, vi a2)] i80_8 rfl (xlk1 l80_215) (Or.inr (Or.inl rfl)) m97 rfl rfl (Nat.le_of_ble_eq_true rfl) (Nat.le_of_ble_eq_true rfl) (Nat.le_of_ble_eq_true rfl) rfl rfl rfl (fun R1 => c_x7_isSheet N   (by omega) s1 a2) (fun s3 v4 => ?_)
    refine vZne 17 14 rfl i80_11 rfl rfl ?_ ?_
    · refine vLan 18 i80_17 rfl rfl ?_
      refine vGetC 21 i80_18 f80_54 sh_0 rfl rfl ?_
      refine vLin 22 i80_21 rfl rfl ?_
      refine vCallI 25 [.ref 51, vi a0] [] [(0, .ref 51), (1, vi a0)] i80_22 rfl (xlk0 l80_233) (Or.inl rfl) m33 rfl rfl (Nat.le_of_ble_eq_true rfl) (Nat.le_of_ble_eq_true rfl) (Nat.le_of_ble_eq_true rfl) (xh0 sh_51 (by decide)) rfl rfl (fun R1 => c_x3_isMissing N   (by omega) s3 a0) (fun s5 v6 => ?_)
      refine vZne 39 28 rfl i80_25 rfl rfl ?_ ?_
      · refine vKb 41 i80_39 (by decide) rfl ?_
        exact vRi i80_41 m80 rfl
      · refine vLan 29 i80_28 rfl rfl ?_
        refine vGetC 32 i80_29 f80_54 sh_0 rfl rfl ?_
        refine vLin 33 i80_32 rfl rfl ?_
        refine vCallI 36 [.ref 51, vi a2] [] [(0, .ref 51), (1, vi a2)] i80_33 rfl (xlk0 l80_233) (Or.inl rfl) m33 rfl rfl (Nat.le_of_ble_eq_true rfl) (Nat.le_of_ble_eq_true rfl) (Nat.le_of_ble_eq_true rfl) (xh0 sh_51 (by decide)) rfl rfl (fun R1 => c_x3_isMissing N   (by omega) s5 a2) (fun s7 v8 => ?_)
        refine vZeq 42 39 rfl i80_36 rfl rfl ?_ ?_
        · refine vLan 43 i80_42 rfl rfl ?_
          refine vGetC 46 i80_43 f80_54 sh_0 rfl rfl ?_
          refine vGetC 49 i80_46 f80_261 sh_51 rfl rfl ?_
          refine vLin 50 i80_49 rfl rfl ?_
          refine vIal 51 rfl i80_50 sh_52 rfl ?_
          refine vLan 52 i80_51 rfl rfl ?_
          refine vGetC 55 i80_52 f80_54 sh_0 rfl rfl ?_
          refine vGetC 58 i80_55 f80_261 sh_51 rfl rfl ?_
          refine vLin 59 i80_58 rfl rfl ?_
          refine vIal 60 rfl i80_59 sh_52 rfl ?_
          refine vCeq 66 63 rfl rfl i80_60 rfl rfl ?_ ?_
          · refine vLan 67 i80_66 rfl rfl ?_
            refine vGetC 70 i80_67 f80_54 sh_0 rfl rfl ?_
            refine vLin 71 i80_70 rfl rfl ?_
            refine vLin 72 i80_71 rfl rfl ?_
            refine vLi 74 i80_72 rfl rfl ?_
            refine vCallI 77 [.ref 51, vi a0, vi a1, vi a4] [] [(0, .ref 51), (1, vi a0), (2, vi a1), (3, vi a4)] i80_74 rfl (xlk0 l80_254) (Or.inl rfl) m37 rfl rfl (Nat.le_of_ble_eq_true rfl) (Nat.le_of_ble_eq_true rfl) (Nat.le_of_ble_eq_true rfl) (xh0 sh_51 (by decide)) rfl rfl (fun R1 => c_x3_spans N   (by omega) s7 a0 a1 a4) (fun s9 v10 => ?_)
            refine vZeq 95 80 rfl i80_77 rfl rfl ?_ ?_
            · refine vKb 97 i80_95 (by decide) rfl ?_
              exact vRi i80_97 m80 rfl
            · refine vLan 81 i80_80 rfl rfl ?_
              refine vGetC 84 i80_81 f80_54 sh_0 rfl rfl ?_
              refine vLin 85 i80_84 rfl rfl ?_
              refine vLi 87 i80_85 rfl rfl ?_
              refine vLi 89 i80_87 rfl rfl ?_
              refine vCallI 92 [.ref 51, vi a2, vi a3, vi a4] [] [(0, .ref 51), (1, vi a2), (2, vi a3), (3, vi a4)] i80_89 rfl (xlk0 l80_254) (Or.inl rfl) m37 rfl rfl (Nat.le_of_ble_eq_true rfl) (Nat.le_of_ble_eq_true rfl) (Nat.le_of_ble_eq_true rfl) (xh0 sh_51 (by decide)) rfl rfl (fun R1 => c_x3_spans N   (by omega) s9 a2 a3 a4) (fun s11 v12 => ?_)
              refine vZne 98 95 rfl i80_92 rfl rfl ?_ ?_
              · refine vLan 99 i80_98 rfl rfl ?_
                refine vGetC 102 i80_99 f80_54 sh_0 rfl rfl ?_
                refine vLin 103 i80_102 rfl rfl ?_
                refine vLin 104 i80_103 rfl rfl ?_
                refine vLin 105 i80_104 rfl rfl ?_
                refine vLi 107 i80_105 rfl rfl ?_
                refine vLi 109 i80_107 rfl rfl ?_
                refine vCallV 112 [.ref 51, vi a0, vi a1, vi a2, vi a3, vi a4] [] [(0, .ref 51), (1, vi a0), (2, vi a1), (3, vi a2), (4, vi a3), (5, vi a4)] i80_109 rfl (xlk0 l80_264) (Or.inl rfl) m34 rfl rfl (Nat.le_of_ble_eq_true rfl) (Nat.le_of_ble_eq_true rfl) (Nat.le_of_ble_eq_true rfl) (xh0 sh_51 (by decide)) rfl rfl (fun R1 => c_x3_move N   (by omega) s11 a0 a1 a2 a3 a4) (fun s13 => ?_)
                refine vLi 114 i80_112 rfl rfl ?_
                exact vRi i80_114 m80 rfl
              · refine vKb 97 i80_95 (by decide) rfl ?_
                exact vRi i80_97 m80 rfl
          · refine vKb 65 i80_63 (by decide) rfl ?_
            exact vRi i80_65 m80 rfl
        · refine vKb 41 i80_39 (by decide) rfl ?_
          exact vRi i80_41 m80 rfl
    · refine vKb 16 i80_14 (by decide) rfl ?_
      exact vRi i80_16 m80 rfl
theorem f101_54 : xFld xg 101 54 = some (6, 6) := by decide +kernel
theorem f101_28 : xFld xg 101 28 = some (6, 2) := by decide +kernel
theorem f101_130 : xFld xg 101 130 = some (4, 6) := by decide +kernel
theorem f101_35 : xFld xg 101 35 = some (6, 3) := by decide +kernel
theorem f101_143 : xFld xg 101 143 = some (4, 7) := by decide +kernel
theorem f101_261 : xFld xg 101 261 = some (2, 0) := by decide +kernel
theorem i101_132 : xIns xg 101 132 = some (.iload 7) := by decide +kernel
theorem i101_134 : xIns xg 101 134 = some (.iload 5) := by decide +kernel
theorem i101_136 : xIns xg 101 136 = some (.if_icmp .ge 38) := by decide +kernel
theorem i101_174 : xIns xg 101 174 = some (.aload_n 0) := by decide +kernel
theorem i101_175 : xIns xg 101 175 = some (.getfield 28) := by decide +kernel
theorem i101_178 : xIns xg 101 178 = some (.iload_n 2) := by decide +kernel
theorem i101_179 : xIns xg 101 179 = some (.iconst 1) := by decide +kernel
theorem i101_180 : xIns xg 101 180 = some (.invokevirtual 272) := by decide +kernel
theorem i101_183 : xIns xg 101 183 = some (.aload_n 0) := by decide +kernel
theorem i101_184 : xIns xg 101 184 = some (.getfield 35) := by decide +kernel
theorem i101_187 : xIns xg 101 187 = some (.invokevirtual 101) := by decide +kernel
theorem i101_190 : xIns xg 101 190 = some (.iload 5) := by decide +kernel
theorem i101_192 : xIns xg 101 192 = some (.ireturn) := by decide +kernel
theorem m101 : (xMet xg 101).2.2 = (8, (some .int)) := by decide +kernel
theorem i101_139 : xIns xg 101 139 = some (.aload_n 0) := by decide +kernel
theorem i101_140 : xIns xg 101 140 = some (.getfield 28) := by decide +kernel
theorem i101_143 : xIns xg 101 143 = some (.getfield 143) := by decide +kernel
theorem i101_146 : xIns xg 101 146 = some (.iload 6) := by decide +kernel
theorem i101_148 : xIns xg 101 148 = some (.bipush 8) := by decide +kernel
theorem i101_150 : xIns xg 101 150 = some (.imul) := by decide +kernel
theorem i101_151 : xIns xg 101 151 = some (.iload 7) := by decide +kernel
theorem i101_153 : xIns xg 101 153 = some (.iadd) := by decide +kernel
theorem i101_154 : xIns xg 101 154 = some (.aload_n 0) := by decide +kernel
theorem i101_155 : xIns xg 101 155 = some (.getfield 54) := by decide +kernel
theorem i101_158 : xIns xg 101 158 = some (.iload_n 1) := by decide +kernel
theorem i101_159 : xIns xg 101 159 = some (.iload 4) := by decide +kernel
theorem i101_161 : xIns xg 101 161 = some (.iload 7) := by decide +kernel
theorem i101_163 : xIns xg 101 163 = some (.iadd) := by decide +kernel
theorem i101_164 : xIns xg 101 164 = some (.invokevirtual 258) := by decide +kernel
theorem i101_167 : xIns xg 101 167 = some (.lastore) := by decide +kernel
theorem i101_168 : xIns xg 101 168 = some (.iinc 7 1) := by decide +kernel
theorem i101_171 : xIns xg 101 171 = some (.goto (-39)) := by decide +kernel
theorem i101_69 : xIns xg 101 69 = some (.aload_n 0) := by decide +kernel
theorem i101_70 : xIns xg 101 70 = some (.getfield 54) := by decide +kernel
theorem i101_73 : xIns xg 101 73 = some (.iload_n 1) := by decide +kernel
theorem i101_74 : xIns xg 101 74 = some (.invokevirtual 233) := by decide +kernel
theorem i101_77 : xIns xg 101 77 = some (.ifCond .eq 6) := by decide +kernel
theorem i101_83 : xIns xg 101 83 = some (.aload_n 0) := by decide +kernel
theorem i101_84 : xIns xg 101 84 = some (.getfield 54) := by decide +kernel
theorem i101_87 : xIns xg 101 87 = some (.iload_n 1) := by decide +kernel
theorem i101_88 : xIns xg 101 88 = some (.iload 4) := by decide +kernel
theorem i101_90 : xIns xg 101 90 = some (.iload 5) := by decide +kernel
theorem i101_92 : xIns xg 101 92 = some (.invokevirtual 254) := by decide +kernel
theorem i101_95 : xIns xg 101 95 = some (.ifCond .ne 6) := by decide +kernel
theorem i101_101 : xIns xg 101 101 = some (.iload_n 2) := by decide +kernel
theorem i101_102 : xIns xg 101 102 = some (.bipush 24) := by decide +kernel
theorem i101_104 : xIns xg 101 104 = some (.imul) := by decide +kernel
theorem i101_105 : xIns xg 101 105 = some (.istore 6) := by decide +kernel
theorem i101_107 : xIns xg 101 107 = some (.aload_n 0) := by decide +kernel
theorem i101_108 : xIns xg 101 108 = some (.getfield 28) := by decide +kernel
theorem i101_111 : xIns xg 101 111 = some (.iload 6) := by decide +kernel
theorem i101_113 : xIns xg 101 113 = some (.iconst 2) := by decide +kernel
theorem i101_114 : xIns xg 101 114 = some (.invokevirtual 268) := by decide +kernel
theorem i101_117 : xIns xg 101 117 = some (.aload_n 0) := by decide +kernel
theorem i101_118 : xIns xg 101 118 = some (.getfield 28) := by decide +kernel
theorem i101_121 : xIns xg 101 121 = some (.getfield 130) := by decide +kernel
theorem i101_124 : xIns xg 101 124 = some (.iload 6) := by decide +kernel
theorem i101_126 : xIns xg 101 126 = some (.iload 5) := by decide +kernel
theorem i101_128 : xIns xg 101 128 = some (.iastore) := by decide +kernel
theorem i101_129 : xIns xg 101 129 = some (.iconst 0) := by decide +kernel
theorem i101_130 : xIns xg 101 130 = some (.istore 7) := by decide +kernel
theorem i101_98 : xIns xg 101 98 = some (.bipush (-12)) := by decide +kernel
theorem i101_100 : xIns xg 101 100 = some (.ireturn) := by decide +kernel
theorem i101_80 : xIns xg 101 80 = some (.bipush (-11)) := by decide +kernel
theorem i101_82 : xIns xg 101 82 = some (.ireturn) := by decide +kernel
theorem i101_0 : xIns xg 101 0 = some (.iload_n 1) := by decide +kernel
theorem i101_1 : xIns xg 101 1 = some (.invokestatic 215) := by decide +kernel
theorem i101_4 : xIns xg 101 4 = some (.ifCond .eq 10) := by decide +kernel
theorem i101_14 : xIns xg 101 14 = some (.bipush (-2)) := by decide +kernel
theorem i101_16 : xIns xg 101 16 = some (.ireturn) := by decide +kernel
theorem i101_7 : xIns xg 101 7 = some (.iload_n 2) := by decide +kernel
theorem i101_8 : xIns xg 101 8 = some (.invokestatic 86) := by decide +kernel
theorem i101_11 : xIns xg 101 11 = some (.ifCond .ne 6) := by decide +kernel
theorem i101_17 : xIns xg 101 17 = some (.iload_n 3) := by decide +kernel
theorem i101_18 : xIns xg 101 18 = some (.ifCond .lt 21) := by decide +kernel
theorem i101_39 : xIns xg 101 39 = some (.bipush (-2)) := by decide +kernel
theorem i101_41 : xIns xg 101 41 = some (.ireturn) := by decide +kernel
theorem i101_21 : xIns xg 101 21 = some (.iload_n 3) := by decide +kernel
theorem i101_22 : xIns xg 101 22 = some (.iconst 2) := by decide +kernel
theorem i101_23 : xIns xg 101 23 = some (.if_icmp .gt 16) := by decide +kernel
theorem i101_26 : xIns xg 101 26 = some (.iload 5) := by decide +kernel
theorem i101_28 : xIns xg 101 28 = some (.iconst 1) := by decide +kernel
theorem i101_29 : xIns xg 101 29 = some (.if_icmp .lt 10) := by decide +kernel
theorem i101_32 : xIns xg 101 32 = some (.iload 5) := by decide +kernel
theorem i101_34 : xIns xg 101 34 = some (.bipush 8) := by decide +kernel
theorem i101_36 : xIns xg 101 36 = some (.if_icmp .le 6) := by decide +kernel
theorem i101_42 : xIns xg 101 42 = some (.aload_n 0) := by decide +kernel
theorem i101_43 : xIns xg 101 43 = some (.getfield 54) := by decide +kernel
theorem i101_46 : xIns xg 101 46 = some (.iload_n 1) := by decide +kernel
theorem i101_47 : xIns xg 101 47 = some (.invokevirtual 233) := by decide +kernel
theorem i101_50 : xIns xg 101 50 = some (.ifCond .ne 19) := by decide +kernel
theorem i101_53 : xIns xg 101 53 = some (.aload_n 0) := by decide +kernel
theorem i101_54 : xIns xg 101 54 = some (.getfield 54) := by decide +kernel
theorem i101_57 : xIns xg 101 57 = some (.getfield 261) := by decide +kernel
theorem i101_60 : xIns xg 101 60 = some (.iload_n 1) := by decide +kernel
theorem i101_61 : xIns xg 101 61 = some (.iaload) := by decide +kernel
theorem i101_62 : xIns xg 101 62 = some (.iload_n 3) := by decide +kernel
theorem i101_63 : xIns xg 101 63 = some (.if_icmp .eq 6) := by decide +kernel
theorem i101_66 : xIns xg 101 66 = some (.bipush (-13)) := by decide +kernel
theorem i101_68 : xIns xg 101 68 = some (.ireturn) := by decide +kernel
def d_x7_lay_132 (N : Nat)  (k132 : St → Int → Int → Int → Int → Int → Int → Option Rs) (s : St) (x1 : Int) (x2 : Int) (x4 : Int) (x5 : Int) (x6 : Int) (x7 : Int) : Option Rs :=
  (if (w32 x7) < (w32 x5) then bI (d_x3_read N  s x1 (x4 + x7)) fun s5 v6 => if 0 ≤ (w32 ((x6 * 8) + x7)) ∧ (w32 ((x6 * 8) + x7)) < ((1536 : Nat) : Int) then bd (up s5 25 (Int.toNat (w32 ((x6 * 8) + x7))) v6) fun s7 => bd (x7 + 1) fun v8 => k132 s7 x1 x2 x4 x5 x6 v8 else none else bV (d_x5_close N 17 8 s x2 1) fun s1 => bV (d_x6_untell N 26 s1 ) fun s3 => some (s3, x5))
def d_x7_lay_132L (N : Nat)  : Nat → St → Int → Int → Int → Int → Int → Int → Option Rs
  | 0 => fun _ _ _ _ _ _ _ => none
  | n + 1 => d_x7_lay_132 N  (d_x7_lay_132L N  n)
set_option maxHeartbeats 4000000 in
set_option maxRecDepth 100000 in
theorem c_x7_lay_132 {sc : xS} {d : Nat} {R : Rs} (N : Nat)  (hd : 2 ≤ d)   (k132 : St → Int → Int → Int → Int → Int → Int → Option Rs) (hk132 : ∀ (s : St) (x1 : Int) (x2 : Int) (x4 : Int) (x5 : Int) (x6 : Int) (x7 : Int), k132 s x1 x2 x4 x5 x6 x7 = some R → vT sc d 101 132 [(0, .ref 0), (1, vi x1), (2, vi x2), (4, vi x4), (5, vi x5), (6, vi x6), (7, vi x7)] [] s (fun r => r = qI R)) (s : St) (x1 : Int) (x2 : Int) (x4 : Int) (x5 : Int) (x6 : Int) (x7 : Int) : d_x7_lay_132 N  k132 s x1 x2 x4 x5 x6 x7 = some R → vT sc d 101 132 [(0, .ref 0), (1, vi x1), (2, vi x2), (4, vi x4), (5, vi x5), (6, vi x6), (7, vi x7)] [] s (fun r => r = qI R) := by
  obtain ⟨d, rfl⟩ : ∃ d', d = d' + 1 := ⟨d - 1, by omega⟩
  unfold d_x7_lay_132
  refine vLi 134 i101_132 rfl rfl ?_
  refine vLi 136 i101_134 rfl rfl ?_
  refine vCge 174 139 rfl rfl i101_136 rfl rfl ?_ ?_
  · refine vLan 175 i101_174 rfl rfl ?_
    refine vGetC 178 i101_175 f101_28 sh_0 rfl rfl ?_
    refine vLin 179 i101_178 rfl rfl ?_
    refine vK 180 i101_179 rfl ?_
    refine vCallV 183 [.ref 17, vi x2, vi 1] [] [(0, .ref 17), (1, vi x2), (2, vi 1)] i101_180 rfl (xlk0 l101_272) (Or.inl rfl) m63 rfl rfl (Nat.le_of_ble_eq_true rfl) (Nat.le_of_ble_eq_true rfl) (Nat.le_of_ble_eq_true rfl) (xh0 sh_17 (by decide)) rfl rfl (fun R1 => c_x5_close N 17 8 isTexts_17 (by omega) s x2 1) (fun s1 => ?_)
    refine vLan 184 i101_183 rfl rfl ?_
    refine vGetC 187 i101_184 f101_35 sh_0 rfl rfl ?_
    refine vCallV 190 [.ref 26] [] [(0, .ref 26)] i101_187 rfl (xlk0 l101_101) (Or.inl rfl) m77 rfl rfl (Nat.le_of_ble_eq_true rfl) (Nat.le_of_ble_eq_true rfl) (Nat.le_of_ble_eq_true rfl) (xh0 sh_26 (by decide)) rfl rfl (fun R1 => c_x6_untell N 26 isTold_26 (by omega) s1 ) (fun s3 => ?_)
    refine vLi 192 i101_190 rfl rfl ?_
    exact vRi i101_192 m101 rfl
  · refine vLan 140 i101_139 rfl rfl ?_
    refine vGetC 143 i101_140 f101_28 sh_0 rfl rfl ?_
    refine vGetC 146 i101_143 f101_143 sh_17 rfl rfl ?_
    refine vLi 148 i101_146 rfl rfl ?_
    refine vKb 150 i101_148 (by decide) rfl ?_
    refine vImul 151 i101_150 rfl ?_
    refine vLi 153 i101_151 rfl rfl ?_
    refine vIadd 154 i101_153 rfl ?_
    refine vLan 155 i101_154 rfl rfl ?_
    refine vGetC 158 i101_155 f101_54 sh_0 rfl rfl ?_
    refine vLin 159 i101_158 rfl rfl ?_
    refine vLi 161 i101_159 rfl rfl ?_
    refine vLi 163 i101_161 rfl rfl ?_
    refine vIadd 164 i101_163 rfl ?_
    refine vCallL 167 [.ref 51, vi x1, vi (x4 + x7)] [vi ((x6 * 8) + x7), .ref 25] [(0, .ref 51), (1, vi x1), (2, vi (x4 + x7))] i101_164 rfl (xlk0 l101_258) (Or.inl rfl) m35 rfl rfl (Nat.le_of_ble_eq_true rfl) (Nat.le_of_ble_eq_true rfl) (Nat.le_of_ble_eq_true rfl) (xh0 sh_51 (by decide)) rfl rfl (fun R1 => c_x3_read N   (by omega) s x1 (x4 + x7)) (fun s5 v6 => ?_)
    refine vLas 168 rfl i101_167 sh_25 rfl (fun s7 => ?_)
    refine vInc 171 (fun v8 => [(7, vi v8), (0, .ref 0), (1, vi x1), (2, vi x2), (4, vi x4), (5, vi x5), (6, vi x6)]) i101_168 m101 (by decide) rfl (fun _ => rfl) rfl (fun v8 => ?_)
    refine vGo 132 i101_171 rfl ?_
    exact fun hD => tLc [(0, .ref 0), (1, vi x1), (2, vi x2), (4, vi x4), (5, vi x5), (6, vi x6), (7, vi v8)] (xNdk [0, 1, 2, 4, 5, 6, 7] rfl (by decide)) (xNdk [7, 0, 1, 2, 4, 5, 6] rfl (by decide)) ⟨rfl, rfl, rfl, rfl, rfl, rfl, rfl, trivial⟩ (hk132 s7 x1 x2 x4 x5 x6 v8 hD)
theorem c_x7_lay_132L {sc : xS} {d : Nat} {R : Rs} (N : Nat)  (hd : 2 ≤ d)   : ∀ (n : Nat) (s : St) (x1 : Int) (x2 : Int) (x4 : Int) (x5 : Int) (x6 : Int) (x7 : Int), d_x7_lay_132L N  n s x1 x2 x4 x5 x6 x7 = some R → vT sc d 101 132 [(0, .ref 0), (1, vi x1), (2, vi x2), (4, vi x4), (5, vi x5), (6, vi x6), (7, vi x7)] [] s (fun r => r = qI R) := by
  intro n
  induction n with
  | zero => intro s x1 x2 x4 x5 x6 x7 hD; cases hD
  | succ n ih => intro s x1 x2 x4 x5 x6 x7 hD; exact c_x7_lay_132 N  hd  _ ih s x1 x2 x4 x5 x6 x7 hD
def d_x7_lay_69 (N : Nat)  (s : St) (x1 : Int) (x2 : Int) (x4 : Int) (x5 : Int) : Option Rs :=
  bI (d_x3_isMissing N  s x1) fun s9 v10 => (if (w32 v10) = 0 then bI (d_x3_spans N  s9 x1 x4 x5) fun s11 v12 => (if (w32 v12) = 0 then some (s11, (-12)) else bd (x2 * 24) fun v13 => bV (d_x5_clearPart N 17 8 s11 v13 2) fun s14 => if 0 ≤ (w32 v13) ∧ (w32 v13) < ((192 : Nat) : Int) then bd (up s14 24 (Int.toNat (w32 v13)) x5) fun s16 => d_x7_lay_132L N  N s16 x1 x2 x4 x5 v13 0 else none) else some (s9, (-11)))
set_option maxHeartbeats 4000000 in
set_option maxRecDepth 100000 in
theorem c_x7_lay_69 {sc : xS} {d : Nat} {R : Rs} (N : Nat)  (hd : 2 ≤ d)   (s : St) (x1 : Int) (x2 : Int) (x4 : Int) (x5 : Int) : d_x7_lay_69 N  s x1 x2 x4 x5 = some R → vT sc d 101 69 [(0, .ref 0), (1, vi x1), (2, vi x2), (4, vi x4), (5, vi x5)] [] s (fun r => r = qI R) := by
  obtain ⟨d, rfl⟩ : ∃ d', d = d' + 1 := ⟨d - 1, by omega⟩
  unfold d_x7_lay_69
  refine vLan 70 i101_69 rfl rfl ?_
  refine vGetC 73 i101_70 f101_54 sh_0 rfl rfl ?_
  refine vLin 74 i101_73 rfl rfl ?_
  refine vCallI 77 [.ref 51, vi x1] [] [(0, .ref 51), (1, vi x1)] i101_74 rfl (xlk0 l101_233) (Or.inl rfl) m33 rfl rfl (Nat.le_of_ble_eq_true rfl) (Nat.le_of_ble_eq_true rfl) (Nat.le_of_ble_eq_true rfl) (xh0 sh_51 (by decide)) rfl rfl (fun R1 => c_x3_isMissing N   (by omega) s x1) (fun s9 v10 => ?_)
  refine vZeq 83 80 rfl i101_77 rfl rfl ?_ ?_
  · refine vLan 84 i101_83 rfl rfl ?_
    refine vGetC 87 i101_84 f101_54 sh_0 rfl rfl ?_
    refine vLin 88 i101_87 rfl rfl ?_
    refine vLi 90 i101_88 rfl rfl ?_
    refine vLi 92 i101_90 rfl rfl ?_
    refine vCallI 95 [.ref 51, vi x1, vi x4, vi x5] [] [(0, .ref 51), (1, vi x1), (2, vi x4), (3, vi x5)] i101_92 rfl (xlk0 l101_254) (Or.inl rfl) m37 rfl rfl (Nat.le_of_ble_eq_true rfl) (Nat.le_of_ble_eq_true rfl) (Nat.le_of_ble_eq_true rfl) (xh0 sh_51 (by decide)) rfl rfl (fun R1 => c_x3_spans N   (by omega) s9 x1 x4 x5) (fun s11 v12 => ?_)
    refine vZne 101 98 rfl i101_95 rfl rfl ?_ ?_
    · refine vLin 102 i101_101 rfl rfl ?_
      refine vKb 104 i101_102 (by decide) rfl ?_
      refine vImul 105 i101_104 rfl ?_
      refine vSi 107 (fun v13 => [(6, vi v13), (0, .ref 0), (1, vi x1), (2, vi x2), (4, vi x4), (5, vi x5)]) i101_105 m101 (by decide) (fun v13 => (rfl : xst1 [(0, .ref 0), (1, vi x1), (2, vi x2), (4, vi x4), (5, vi x5)] 6 (vi v13) = [(6, vi v13), (0, .ref 0), (1, vi x1), (2, vi x2), (4, vi x4), (5, vi x5)])) rfl (fun v13 => ?_)
      refine vLan 108 i101_107 rfl rfl ?_
      refine vGetC 111 i101_108 f101_28 sh_0 rfl rfl ?_
      refine vLi 113 i101_111 rfl rfl ?_
      refine vK 114 i101_113 rfl ?_
      refine vCallV 117 [.ref 17, vi v13, vi 2] [] [(0, .ref 17), (1, vi v13), (2, vi 2)] i101_114 rfl (xlk0 l101_268) (Or.inl rfl) m62 rfl rfl (Nat.le_of_ble_eq_true rfl) (Nat.le_of_ble_eq_true rfl) (Nat.le_of_ble_eq_true rfl) (xh0 sh_17 (by decide)) rfl rfl (fun R1 => c_x5_clearPart N 17 8 isTexts_17 (by omega) s11 v13 2) (fun s14 => ?_)
      refine vLan 118 i101_117 rfl rfl ?_
      refine vGetC 121 i101_118 f101_28 sh_0 rfl rfl ?_
      refine vGetC 124 i101_121 f101_130 sh_17 rfl rfl ?_
      refine vLi 126 i101_124 rfl rfl ?_
      refine vLi 128 i101_126 rfl rfl ?_
      refine vIas 129 rfl i101_128 sh_24 rfl (fun s16 => ?_)
      refine vK 130 i101_129 rfl ?_
      refine vSi0 132 [(7, vi 0), (6, vi v13), (0, .ref 0), (1, vi x1), (2, vi x2), (4, vi x4), (5, vi x5)] i101_130 m101 (by decide) rfl rfl ?_
      exact fun hD => tLc [(0, .ref 0), (1, vi x1), (2, vi x2), (4, vi x4), (5, vi x5), (6, vi v13), (7, vi 0)] (xNdk [0, 1, 2, 4, 5, 6, 7] rfl (by decide)) (xNdk [7, 6, 0, 1, 2, 4, 5] rfl (by decide)) ⟨rfl, rfl, rfl, rfl, rfl, rfl, rfl, trivial⟩ (c_x7_lay_132L N  hd  N s16 x1 x2 x4 x5 v13 0 hD)
    · refine vKb 100 i101_98 (by decide) rfl ?_
      exact vRi i101_100 m101 rfl
  · refine vKb 82 i101_80 (by decide) rfl ?_
    exact vRi i101_82 m101 rfl
def d_x7_lay (N : Nat)  (s : St) (a0 : Int) (a1 : Int) (a2 : Int) (a3 : Int) (a4 : Int) : Option Rs :=
  bI (d_x7_isSheet N  s a0) fun s17 v18 => (if (w32 v18) = 0 then some (s17, (-2)) else bI (d_x7_isStream N  s17 a1) fun s19 v20 => (if (w32 v20) = 0 then some (s19, (-2)) else (if (w32 a2) < 0 then some (s19, (-2)) else (if 2 < (w32 a2) then some (s19, (-2)) else (if (w32 a4) < 1 then some (s19, (-2)) else (if 8 < (w32 a4) then some (s19, (-2)) else bI (d_x3_isMissing N  s19 a0) fun s21 v22 => (if (w32 v22) = 0 then if 0 ≤ (w32 a0) ∧ (w32 a0) < ((4 : Nat) : Int) then (if (w32 (s21 52 (Int.toNat (w32 a0)))) = (w32 a2) then d_x7_lay_69 N  s21 a0 a1 a3 a4 else some (s21, (-13))) else none else d_x7_lay_69 N  s21 a0 a1 a3 a4)))))))
set_option maxHeartbeats 4000000 in
set_option maxRecDepth 100000 in
theorem c_x7_lay {sc : xS} {d : Nat} {R : Rs} (N : Nat)  (hd : 2 ≤ d)   (s : St) (a0 : Int) (a1 : Int) (a2 : Int) (a3 : Int) (a4 : Int) : d_x7_lay N  s a0 a1 a2 a3 a4 = some R → vT sc d 101 0 [(0, .ref 0), (1, vi a0), (2, vi a1), (3, vi a2), (4, vi a3), (5, vi a4)] [] s (fun r => r = qI R) := by
  obtain ⟨d, rfl⟩ : ∃ d', d = d' + 1 := ⟨d - 1, by omega⟩
  unfold d_x7_lay
  refine vLin 1 i101_0 rfl rfl ?_
  refine vCallI 4 [vi a0] [] [(0, vi a0)] i101_1 rfl (xlk1 l101_215) (Or.inr (Or.inl rfl)) m97 rfl rfl (Nat.le_of_ble_eq_true rfl) (Nat.le_of_ble_eq_true rfl) (Nat.le_of_ble_eq_true rfl) rfl rfl rfl (fun R1 => c_x7_isSheet N   (by omega) s a0) (fun s17 v18 => ?_)
  refine vZeq 14 7 rfl i101_4 rfl rfl ?_ ?_
  · refine vKb 16 i101_14 (by decide) rfl ?_
    exact vRi i101_16 m101 rfl
  · refine vLin 8 i101_7 rfl rfl ?_
    refine vCallI 11 [vi a1] [] [(0, vi a1)] i101_8 rfl (xlk1 l101_86) (Or.inr (Or.inl rfl)) m98 rfl rfl (Nat.le_of_ble_eq_true rfl) (Nat.le_of_ble_eq_true rfl) (Nat.le_of_ble_eq_true rfl) rfl rfl rfl (fun R1 => c_x7_isStream N   (by omega) s17 a1) (fun s19 v20 => ?_)
    refine vZne 17 14 rfl i101_11 rfl rfl ?_ ?_
    · refine vLin 18 i101_17 rfl rfl ?_
      refine vZlt 39 21 rfl i101_18 rfl rfl ?_ ?_
      · refine vKb 41 i101_39 (by decide) rfl ?_
        exact vRi i101_41 m101 rfl
      · refine vLin 22 i101_21 rfl rfl ?_
        refine vK 23 i101_22 rfl ?_
        refine vCgt 39 26 rfl (show w32 2 = 2 from rfl) i101_23 rfl rfl ?_ ?_
        · refine vKb 41 i101_39 (by decide) rfl ?_
          exact vRi i101_41 m101 rfl
        · refine vLi 28 i101_26 rfl rfl ?_
          refine vK 29 i101_28 rfl ?_
          refine vClt 39 32 rfl (show w32 1 = 1 from rfl) i101_29 rfl rfl ?_ ?_
          · refine vKb 41 i101_39 (by decide) rfl ?_
            exact vRi i101_41 m101 rfl
          · refine vLi 34 i101_32 rfl rfl ?_
            refine vKb 36 i101_34 (by decide) rfl ?_
            refine vCle 42 39 rfl (show w32 8 = 8 from rfl) i101_36 rfl rfl ?_ ?_
            · refine vLan 43 i101_42 rfl rfl ?_
              refine vGetC 46 i101_43 f101_54 sh_0 rfl rfl ?_
              refine vLin 47 i101_46 rfl rfl ?_
              refine vCallI 50 [.ref 51, vi a0] [] [(0, .ref 51), (1, vi a0)] i101_47 rfl (xlk0 l101_233) (Or.inl rfl) m33 rfl rfl (Nat.le_of_ble_eq_true rfl) (Nat.le_of_ble_eq_true rfl) (Nat.le_of_ble_eq_true rfl) (xh0 sh_51 (by decide)) rfl rfl (fun R1 => c_x3_isMissing N   (by omega) s19 a0) (fun s21 v22 => ?_)
              refine vZne 69 53 rfl i101_50 rfl rfl ?_ ?_
              · exact fun hD => tLc [(0, .ref 0), (1, vi a0), (2, vi a1), (4, vi a3), (5, vi a4)] (xNdk [0, 1, 2, 4, 5] rfl (by decide)) (xNdk [0, 1, 2, 3, 4, 5] rfl (by decide)) ⟨rfl, rfl, rfl, rfl, rfl, trivial⟩ (c_x7_lay_69 N  hd  s21 a0 a1 a3 a4 hD)
              · refine vLan 54 i101_53 rfl rfl ?_
                refine vGetC 57 i101_54 f101_54 sh_0 rfl rfl ?_
                refine vGetC 60 i101_57 f101_261 sh_51 rfl rfl ?_
                refine vLin 61 i101_60 rfl rfl ?_
                refine vIal 62 rfl i101_61 sh_52 rfl ?_
                refine vLin 63 i101_62 rfl rfl ?_
                refine vCeq 69 66 rfl rfl i101_63 rfl rfl ?_ ?_
                · exact fun hD => tLc [(0, .ref 0), (1, vi a0), (2, vi a1), (4, vi a3), (5, vi a4)] (xNdk [0, 1, 2, 4, 5] rfl (by decide)) (xNdk [0, 1, 2, 3, 4, 5] rfl (by decide)) ⟨rfl, rfl, rfl, rfl, rfl, trivial⟩ (c_x7_lay_69 N  hd  s21 a0 a1 a3 a4 hD)
                · refine vKb 68 i101_66 (by decide) rfl ?_
                  exact vRi i101_68 m101 rfl
            · refine vKb 41 i101_39 (by decide) rfl ?_
              exact vRi i101_41 m101 rfl
    · refine vKb 16 i101_14 (by decide) rfl ?_
      exact vRi i101_16 m101 rfl
