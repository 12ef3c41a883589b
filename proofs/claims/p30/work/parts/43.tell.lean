theorem i42_0 : xIns xg 42 0 = some (.aload_n 0) := by decide +kernel
theorem i42_1 : xIns xg 42 1 = some (.aload_n 1) := by decide +kernel
theorem i42_2 : xIns xg 42 2 = some (.putfield 26) := by decide +kernel
theorem p42_26 : xPut xg 42 26 = some (3, 1, (.object "LateRows$Told")) := by decide +kernel
theorem i42_5 : xIns xg 42 5 = some (.aload_n 0) := by decide +kernel
theorem i42_6 : xIns xg 42 6 = some (.iload_n 2) := by decide +kernel
theorem i42_7 : xIns xg 42 7 = some (.putfield 9) := by decide +kernel
theorem p42_9 : xPut xg 42 9 = some (3, 2, .int) := by decide +kernel
theorem i42_10 : xIns xg 42 10 = some (.aload_n 0) := by decide +kernel
theorem i42_11 : xIns xg 42 11 = some (.iconst 0) := by decide +kernel
theorem i42_12 : xIns xg 42 12 = some (.putfield 15) := by decide +kernel
theorem p42_15 : xPut xg 42 15 = some (3, 3, .int) := by decide +kernel
theorem i42_15 : xIns xg 42 15 = some (.return_) := by decide +kernel
theorem m42 : (xMet xg 42).2.2 = (3, none) := by decide +kernel
def d_x4_begin (N : Nat) (t : Nat)  (s : St) (a1 : Int) : Option Rs :=
  bd (up s 50 1 (t : Int)) fun s1 => bd (up s1 50 2 a1) fun s2 => bd (up s2 50 3 0) fun s3 => some (s3, 0)
set_option maxHeartbeats 4000000 in
set_option maxRecDepth 100000 in
theorem c_x4_begin {sc : xS} {d : Nat} {R : Rs} (N : Nat) (t : Nat) (H : isTold t) (hd : 0 ≤ d)   (s : St) (a1 : Int) : d_x4_begin N t  s a1 = some R → vT sc d 42 0 [(0, .ref 50), (1, .ref t), (2, vi a1)] [] s (fun r => r = qV R) := by
  unfold d_x4_begin
  refine vLan 1 i42_0 rfl rfl ?_
  refine vLan 2 i42_1 rfl rfl ?_
  refine vPutR 5 i42_2 p42_26 sh_50 rfl rfl (fun s1 => ?_)
  refine vLan 6 i42_5 rfl rfl ?_
  refine vLin 7 i42_6 rfl rfl ?_
  refine vPut 10 i42_7 p42_9 sh_50 rfl rfl (fun s2 => ?_)
  refine vLan 11 i42_10 rfl rfl ?_
  refine vK 12 i42_11 rfl ?_
  refine vPut 15 i42_12 p42_15 sh_50 rfl rfl (fun s3 => ?_)
  exact vR0 i42_15 m42
theorem i45_22 : xIns xg 45 22 = some (.iload_n 1) := by decide +kernel
theorem i45_23 : xIns xg 45 23 = some (.tableswitch 81 42 47 #[59, 37, 81, 48, 81, 70]) := by decide +kernel
theorem i45_82 : xIns xg 45 82 = some (.aload_n 0) := by decide +kernel
theorem i45_83 : xIns xg 45 83 = some (.lload_n 2) := by decide +kernel
theorem i45_84 : xIns xg 45 84 = some (.lload 4) := by decide +kernel
theorem i45_86 : xIns xg 45 86 = some (.lmul) := by decide +kernel
theorem i45_87 : xIns xg 45 87 = some (.putfield 18) := by decide +kernel
theorem p45_18 : xPut xg 45 18 = some (3, 4, .long) := by decide +kernel
theorem i45_90 : xIns xg 45 90 = some (.goto 22) := by decide +kernel
theorem i45_112 : xIns xg 45 112 = some (.iconst 1) := by decide +kernel
theorem i45_113 : xIns xg 45 113 = some (.ireturn) := by decide +kernel
theorem m45 : (xMet xg 45).2.2 = (6, (some .int)) := by decide +kernel
theorem i45_60 : xIns xg 45 60 = some (.aload_n 0) := by decide +kernel
theorem i45_61 : xIns xg 45 61 = some (.lload_n 2) := by decide +kernel
theorem i45_62 : xIns xg 45 62 = some (.lload 4) := by decide +kernel
theorem i45_64 : xIns xg 45 64 = some (.ladd) := by decide +kernel
theorem i45_65 : xIns xg 45 65 = some (.putfield 18) := by decide +kernel
theorem i45_68 : xIns xg 45 68 = some (.goto 44) := by decide +kernel
theorem i45_71 : xIns xg 45 71 = some (.aload_n 0) := by decide +kernel
theorem i45_72 : xIns xg 45 72 = some (.lload_n 2) := by decide +kernel
theorem i45_73 : xIns xg 45 73 = some (.lload 4) := by decide +kernel
theorem i45_75 : xIns xg 45 75 = some (.lsub) := by decide +kernel
theorem i45_76 : xIns xg 45 76 = some (.putfield 18) := by decide +kernel
theorem i45_79 : xIns xg 45 79 = some (.goto 33) := by decide +kernel
theorem i45_93 : xIns xg 45 93 = some (.aload_n 0) := by decide +kernel
theorem i45_94 : xIns xg 45 94 = some (.lload_n 2) := by decide +kernel
theorem i45_95 : xIns xg 45 95 = some (.lload 4) := by decide +kernel
theorem i45_97 : xIns xg 45 97 = some (.ldiv) := by decide +kernel
theorem i45_98 : xIns xg 45 98 = some (.putfield 18) := by decide +kernel
theorem i45_101 : xIns xg 45 101 = some (.goto 11) := by decide +kernel
theorem i45_104 : xIns xg 45 104 = some (.aload_n 0) := by decide +kernel
theorem i45_105 : xIns xg 45 105 = some (.lload_n 2) := by decide +kernel
theorem i45_106 : xIns xg 45 106 = some (.lload 4) := by decide +kernel
theorem i45_108 : xIns xg 45 108 = some (.lrem) := by decide +kernel
theorem i45_109 : xIns xg 45 109 = some (.putfield 18) := by decide +kernel
theorem i45_12 : xIns xg 45 12 = some (.lload 4) := by decide +kernel
theorem i45_14 : xIns xg 45 14 = some (.lconst 0) := by decide +kernel
theorem i45_15 : xIns xg 45 15 = some (.lcmp) := by decide +kernel
theorem i45_16 : xIns xg 45 16 = some (.ifCond .ne 6) := by decide +kernel
theorem i45_19 : xIns xg 45 19 = some (.bipush (-22)) := by decide +kernel
theorem i45_21 : xIns xg 45 21 = some (.ireturn) := by decide +kernel
theorem i45_0 : xIns xg 45 0 = some (.iload_n 1) := by decide +kernel
theorem i45_1 : xIns xg 45 1 = some (.bipush 47) := by decide +kernel
theorem i45_3 : xIns xg 45 3 = some (.if_icmp .eq 9) := by decide +kernel
theorem i45_6 : xIns xg 45 6 = some (.iload_n 1) := by decide +kernel
theorem i45_7 : xIns xg 45 7 = some (.bipush 37) := by decide +kernel
theorem i45_9 : xIns xg 45 9 = some (.if_icmp .ne 13) := by decide +kernel
def d_x4_combine_22 (N : Nat)  (s : St) (x1 : Int) (x2 : Int) (x4 : Int) : Option Rs :=
  (if (w32 x1) = 42 then bd (up s 50 4 (x2 * x4)) fun s1 => some (s1, 1) else (if (w32 x1) = 43 then bd (up s 50 4 (x2 + x4)) fun s2 => some (s2, 1) else (if (w32 x1) = 45 then bd (up s 50 4 (x2 - x4)) fun s3 => some (s3, 1) else (if (w32 x1) = 47 then if (w64 x4) = 0 then none else bd (up s 50 4 (Int.tdiv (w64 x2) (w64 x4))) fun s4 => some (s4, 1) else (if (w32 x1) = 44 then if (w64 x4) = 0 then none else bd (up s 50 4 (Int.tmod (w64 x2) (w64 x4))) fun s5 => some (s5, 1) else (if (w32 x1) = 46 then if (w64 x4) = 0 then none else bd (up s 50 4 (Int.tmod (w64 x2) (w64 x4))) fun s5 => some (s5, 1) else if (w64 x4) = 0 then none else bd (up s 50 4 (Int.tmod (w64 x2) (w64 x4))) fun s5 => some (s5, 1)))))))
set_option maxHeartbeats 4000000 in
set_option maxRecDepth 100000 in
theorem c_x4_combine_22 {sc : xS} {d : Nat} {R : Rs} (N : Nat)  (hd : 0 ≤ d)   (s : St) (x1 : Int) (x2 : Int) (x4 : Int) : d_x4_combine_22 N  s x1 x2 x4 = some R → vT sc d 45 22 [(0, .ref 50), (1, vi x1), (2, vl x2), (4, vl x4)] [] s (fun r => r = qI R) := by
  unfold d_x4_combine_22
  refine vLin 23 i45_22 rfl rfl ?_
  refine vSw 82 (v := 42) rfl i45_23 rfl rfl ?_ (fun h42 => ?_)
  · refine vLan 83 i45_82 rfl rfl ?_
    refine vLln 84 i45_83 rfl rfl ?_
    refine vLl 86 i45_84 rfl rfl ?_
    refine vLmul 87 i45_86 rfl ?_
    refine vPutL 90 i45_87 p45_18 sh_50 rfl rfl (fun s1 => ?_)
    refine vGo 112 i45_90 rfl ?_
    refine vK 113 i45_112 rfl ?_
    exact vRi i45_113 m45 rfl
  refine vSw 60 (v := 43) rfl i45_23 rfl rfl ?_ (fun h43 => ?_)
  · refine vLan 61 i45_60 rfl rfl ?_
    refine vLln 62 i45_61 rfl rfl ?_
    refine vLl 64 i45_62 rfl rfl ?_
    refine vLadd 65 i45_64 rfl ?_
    refine vPutL 68 i45_65 p45_18 sh_50 rfl rfl (fun s2 => ?_)
    refine vGo 112 i45_68 rfl ?_
    refine vK 113 i45_112 rfl ?_
    exact vRi i45_113 m45 rfl
  refine vSw 71 (v := 45) rfl i45_23 rfl rfl ?_ (fun h45 => ?_)
  · refine vLan 72 i45_71 rfl rfl ?_
    refine vLln 73 i45_72 rfl rfl ?_
    refine vLl 75 i45_73 rfl rfl ?_
    refine vLsub 76 i45_75 rfl ?_
    refine vPutL 79 i45_76 p45_18 sh_50 rfl rfl (fun s3 => ?_)
    refine vGo 112 i45_79 rfl ?_
    refine vK 113 i45_112 rfl ?_
    exact vRi i45_113 m45 rfl
  refine vSw 93 (v := 47) rfl i45_23 rfl rfl ?_ (fun h47 => ?_)
  · refine vLan 94 i45_93 rfl rfl ?_
    refine vLln 95 i45_94 rfl rfl ?_
    refine vLl 97 i45_95 rfl rfl ?_
    refine vLdiv 98 rfl rfl i45_97 rfl ?_
    refine vPutL 101 i45_98 p45_18 sh_50 rfl rfl (fun s4 => ?_)
    refine vGo 112 i45_101 rfl ?_
    refine vK 113 i45_112 rfl ?_
    exact vRi i45_113 m45 rfl
  refine vSw 104 (v := 44) rfl i45_23 rfl rfl ?_ (fun h44 => ?_)
  · refine vLan 105 i45_104 rfl rfl ?_
    refine vLln 106 i45_105 rfl rfl ?_
    refine vLl 108 i45_106 rfl rfl ?_
    refine vLrem 109 rfl rfl i45_108 rfl ?_
    refine vPutL 112 i45_109 p45_18 sh_50 rfl rfl (fun s5 => ?_)
    refine vK 113 i45_112 rfl ?_
    exact vRi i45_113 m45 rfl
  refine vSw 104 (v := 46) rfl i45_23 rfl rfl ?_ (fun h46 => ?_)
  · refine vLan 105 i45_104 rfl rfl ?_
    refine vLln 106 i45_105 rfl rfl ?_
    refine vLl 108 i45_106 rfl rfl ?_
    refine vLrem 109 rfl rfl i45_108 rfl ?_
    refine vPutL 112 i45_109 p45_18 sh_50 rfl rfl (fun s5 => ?_)
    refine vK 113 i45_112 rfl ?_
    exact vRi i45_113 m45 rfl
  refine vSwD 104 i45_23 (by omega) rfl ?_
  refine vLan 105 i45_104 rfl rfl ?_
  refine vLln 106 i45_105 rfl rfl ?_
  refine vLl 108 i45_106 rfl rfl ?_
  refine vLrem 109 rfl rfl i45_108 rfl ?_
  refine vPutL 112 i45_109 p45_18 sh_50 rfl rfl (fun s5 => ?_)
  refine vK 113 i45_112 rfl ?_
  exact vRi i45_113 m45 rfl
def d_x4_combine_12 (N : Nat)  (s : St) (x1 : Int) (x2 : Int) (x4 : Int) : Option Rs :=
  (if (w64 x4) = 0 then some (s, (-22)) else d_x4_combine_22 N  s x1 x2 x4)
set_option maxHeartbeats 4000000 in
set_option maxRecDepth 100000 in
theorem c_x4_combine_12 {sc : xS} {d : Nat} {R : Rs} (N : Nat)  (hd : 0 ≤ d)   (s : St) (x1 : Int) (x2 : Int) (x4 : Int) : d_x4_combine_12 N  s x1 x2 x4 = some R → vT sc d 45 12 [(0, .ref 50), (1, vi x1), (2, vl x2), (4, vl x4)] [] s (fun r => r = qI R) := by
  unfold d_x4_combine_12
  refine vLl 14 i45_12 rfl rfl ?_
  refine vKl 15 0 i45_14 (by decide) rfl ?_
  refine vLcne 22 16 19 rfl (show w64 0 = 0 from rfl) i45_15 rfl i45_16 rfl rfl ?_ ?_
  · exact fun hD => c_x4_combine_22 N  hd  s x1 x2 x4 hD
  · refine vKb 21 i45_19 (by decide) rfl ?_
    exact vRi i45_21 m45 rfl
def d_x4_combine (N : Nat)  (s : St) (a0 : Int) (a1 : Int) (a2 : Int) : Option Rs :=
  (if (w32 a0) = 47 then d_x4_combine_12 N  s a0 a1 a2 else (if (w32 a0) = 37 then d_x4_combine_12 N  s a0 a1 a2 else d_x4_combine_22 N  s a0 a1 a2))
set_option maxHeartbeats 4000000 in
set_option maxRecDepth 100000 in
theorem c_x4_combine {sc : xS} {d : Nat} {R : Rs} (N : Nat)  (hd : 0 ≤ d)   (s : St) (a0 : Int) (a1 : Int) (a2 : Int) : d_x4_combine N  s a0 a1 a2 = some R → vT sc d 45 0 [(0, .ref 50), (1, vi a0), (2, vl a1), (4, vl a2)] [] s (fun r => r = qI R) := by
  unfold d_x4_combine
  refine vLin 1 i45_0 rfl rfl ?_
  refine vKb 3 i45_1 (by decide) rfl ?_
  refine vCeq 12 6 rfl (show w32 47 = 47 from rfl) i45_3 rfl rfl ?_ ?_
  · exact fun hD => c_x4_combine_12 N  hd  s a0 a1 a2 hD
  · refine vLin 7 i45_6 rfl rfl ?_
    refine vKb 9 i45_7 (by decide) rfl ?_
    refine vCne 22 12 rfl (show w32 37 = 37 from rfl) i45_9 rfl rfl ?_ ?_
    · exact fun hD => c_x4_combine_22 N  hd  s a0 a1 a2 hD
    · exact fun hD => c_x4_combine_12 N  hd  s a0 a1 a2 hD
theorem i59_0 : xIns xg 59 0 = some (.aload_n 0) := by decide +kernel
theorem i59_1 : xIns xg 59 1 = some (.lload_n 1) := by decide +kernel
theorem i59_2 : xIns xg 59 2 = some (.putfield 18) := by decide +kernel
theorem p59_18 : xPut xg 59 18 = some (3, 4, .long) := by decide +kernel
theorem i59_5 : xIns xg 59 5 = some (.iconst 1) := by decide +kernel
theorem i59_6 : xIns xg 59 6 = some (.ireturn) := by decide +kernel
theorem m59 : (xMet xg 59).2.2 = (3, (some .int)) := by decide +kernel
def d_x4_tellNumber (N : Nat)  (s : St) (a0 : Int) : Option Rs :=
  bd (up s 50 4 a0) fun s1 => some (s1, 1)
set_option maxHeartbeats 4000000 in
set_option maxRecDepth 100000 in
theorem c_x4_tellNumber {sc : xS} {d : Nat} {R : Rs} (N : Nat)  (hd : 0 ≤ d)   (s : St) (a0 : Int) : d_x4_tellNumber N  s a0 = some R → vT sc d 59 0 [(0, .ref 50), (1, vl a0)] [] s (fun r => r = qI R) := by
  unfold d_x4_tellNumber
  refine vLan 1 i59_0 rfl rfl ?_
  refine vLln 2 i59_1 rfl rfl ?_
  refine vPutL 5 i59_2 p59_18 sh_50 rfl rfl (fun s1 => ?_)
  refine vK 6 i59_5 rfl ?_
  exact vRi i59_6 m59 rfl
theorem f58_22 : xFld xg 58 22 = some (3, 0) := by decide +kernel
theorem f58_94 : xFld xg 58 94 = some (4, 3) := by decide +kernel
theorem f58_26 : xFld xg 58 26 = some (3, 1) := by decide +kernel
theorem f58_122 : xFld xg 58 122 = some (5, 8) := by decide +kernel
theorem f58_69 : xFld xg 58 69 = some (4, 1) := by decide +kernel
theorem f58_18 : xFld xg 58 18 = some (3, 4) := by decide +kernel
theorem f58_108 : xFld xg 58 108 = some (4, 2) := by decide +kernel
theorem f58_135 : xFld xg 58 135 = some (4, 7) := by decide +kernel
theorem f58_128 : xFld xg 58 128 = some (4, 4) := by decide +kernel
theorem i58_429 : xIns xg 58 429 = some (.iload 9) := by decide +kernel
theorem i58_431 : xIns xg 58 431 = some (.iload 4) := by decide +kernel
theorem i58_433 : xIns xg 58 433 = some (.if_icmp .ge 41) := by decide +kernel
theorem i58_474 : xIns xg 58 474 = some (.aload_n 0) := by decide +kernel
theorem i58_475 : xIns xg 58 475 = some (.lload 7) := by decide +kernel
theorem i58_477 : xIns xg 58 477 = some (.invokevirtual 131) := by decide +kernel
theorem i58_480 : xIns xg 58 480 = some (.ireturn) := by decide +kernel
theorem m58 : (xMet xg 58).2.2 = (10, (some .int)) := by decide +kernel
theorem i58_436 : xIns xg 58 436 = some (.aload_n 0) := by decide +kernel
theorem i58_437 : xIns xg 58 437 = some (.iload_n 3) := by decide +kernel
theorem i58_438 : xIns xg 58 438 = some (.iload 4) := by decide +kernel
theorem i58_440 : xIns xg 58 440 = some (.iload_n 2) := by decide +kernel
theorem i58_441 : xIns xg 58 441 = some (.imul) := by decide +kernel
theorem i58_442 : xIns xg 58 442 = some (.iload 9) := by decide +kernel
theorem i58_444 : xIns xg 58 444 = some (.iadd) := by decide +kernel
theorem i58_445 : xIns xg 58 445 = some (.invokevirtual 34) := by decide +kernel
theorem m40 : (xMet xg 40).2.2 = (6, (some .int)) := by decide +kernel
theorem i58_448 : xIns xg 58 448 = some (.istore 6) := by decide +kernel
theorem i58_450 : xIns xg 58 450 = some (.iload 6) := by decide +kernel
theorem i58_452 : xIns xg 58 452 = some (.iconst 1) := by decide +kernel
theorem i58_453 : xIns xg 58 453 = some (.if_icmp .eq 6) := by decide +kernel
theorem i58_459 : xIns xg 58 459 = some (.lload 7) := by decide +kernel
theorem i58_461 : xIns xg 58 461 = some (.aload_n 0) := by decide +kernel
theorem i58_462 : xIns xg 58 462 = some (.getfield 18) := by decide +kernel
theorem i58_465 : xIns xg 58 465 = some (.ladd) := by decide +kernel
theorem i58_466 : xIns xg 58 466 = some (.lstore 7) := by decide +kernel
theorem i58_468 : xIns xg 58 468 = some (.iinc 9 1) := by decide +kernel
theorem i58_471 : xIns xg 58 471 = some (.goto (-42)) := by decide +kernel
theorem i58_456 : xIns xg 58 456 = some (.iload 6) := by decide +kernel
theorem i58_458 : xIns xg 58 458 = some (.ireturn) := by decide +kernel
theorem i58_159 : xIns xg 58 159 = some (.invokevirtual 131) := by decide +kernel
theorem i58_162 : xIns xg 58 162 = some (.ireturn) := by decide +kernel
theorem i58_0 : xIns xg 58 0 = some (.aload_n 0) := by decide +kernel
theorem i58_1 : xIns xg 58 1 = some (.getfield 22) := by decide +kernel
theorem i58_4 : xIns xg 58 4 = some (.iload_n 1) := by decide +kernel
theorem i58_5 : xIns xg 58 5 = some (.invokevirtual 99) := by decide +kernel
theorem i58_8 : xIns xg 58 8 = some (.istore_n 3) := by decide +kernel
theorem i58_9 : xIns xg 58 9 = some (.aload_n 0) := by decide +kernel
theorem i58_10 : xIns xg 58 10 = some (.getfield 22) := by decide +kernel
theorem i58_13 : xIns xg 58 13 = some (.getfield 94) := by decide +kernel
theorem i58_16 : xIns xg 58 16 = some (.iload_n 1) := by decide +kernel
theorem i58_17 : xIns xg 58 17 = some (.iaload) := by decide +kernel
theorem i58_18 : xIns xg 58 18 = some (.istore 4) := by decide +kernel
theorem i58_20 : xIns xg 58 20 = some (.aload_n 0) := by decide +kernel
theorem i58_21 : xIns xg 58 21 = some (.getfield 26) := by decide +kernel
theorem i58_24 : xIns xg 58 24 = some (.getfield 122) := by decide +kernel
theorem i58_27 : xIns xg 58 27 = some (.iload_n 1) := by decide +kernel
theorem i58_28 : xIns xg 58 28 = some (.bipush 64) := by decide +kernel
theorem i58_30 : xIns xg 58 30 = some (.imul) := by decide +kernel
theorem i58_31 : xIns xg 58 31 = some (.iload_n 2) := by decide +kernel
theorem i58_32 : xIns xg 58 32 = some (.iadd) := by decide +kernel
theorem i58_33 : xIns xg 58 33 = some (.baload) := by decide +kernel
theorem i58_34 : xIns xg 58 34 = some (.istore 5) := by decide +kernel
theorem i58_36 : xIns xg 58 36 = some (.aload_n 0) := by decide +kernel
theorem i58_37 : xIns xg 58 37 = some (.getfield 22) := by decide +kernel
theorem i58_40 : xIns xg 58 40 = some (.getfield 69) := by decide +kernel
theorem i58_43 : xIns xg 58 43 = some (.iload_n 1) := by decide +kernel
theorem i58_44 : xIns xg 58 44 = some (.iaload) := by decide +kernel
theorem i58_45 : xIns xg 58 45 = some (.tableswitch 436 1 13 #[67, 89, 118, 335, 436, 158, 343, 436, 302, 227, 335, 312, 378]) := by decide +kernel
theorem i58_112 : xIns xg 58 112 = some (.aload_n 0) := by decide +kernel
theorem i58_113 : xIns xg 58 113 = some (.iload 4) := by decide +kernel
theorem i58_115 : xIns xg 58 115 = some (.i2l) := by decide +kernel
theorem i58_116 : xIns xg 58 116 = some (.iload_n 2) := by decide +kernel
theorem i58_117 : xIns xg 58 117 = some (.i2l) := by decide +kernel
theorem i58_118 : xIns xg 58 118 = some (.aload_n 0) := by decide +kernel
theorem i58_119 : xIns xg 58 119 = some (.getfield 22) := by decide +kernel
theorem i58_122 : xIns xg 58 122 = some (.getfield 128) := by decide +kernel
theorem i58_125 : xIns xg 58 125 = some (.iload_n 1) := by decide +kernel
theorem i58_126 : xIns xg 58 126 = some (.iaload) := by decide +kernel
theorem i58_127 : xIns xg 58 127 = some (.i2l) := by decide +kernel
theorem i58_128 : xIns xg 58 128 = some (.lmul) := by decide +kernel
theorem i58_129 : xIns xg 58 129 = some (.ladd) := by decide +kernel
theorem i58_130 : xIns xg 58 130 = some (.invokevirtual 131) := by decide +kernel
theorem i58_133 : xIns xg 58 133 = some (.ireturn) := by decide +kernel
theorem i58_134 : xIns xg 58 134 = some (.aload_n 0) := by decide +kernel
theorem i58_135 : xIns xg 58 135 = some (.iload_n 2) := by decide +kernel
theorem i58_136 : xIns xg 58 136 = some (.bipush 8) := by decide +kernel
theorem i58_138 : xIns xg 58 138 = some (.if_icmp .ge 20) := by decide +kernel
theorem i58_158 : xIns xg 58 158 = some (.lconst 0) := by decide +kernel
theorem i58_141 : xIns xg 58 141 = some (.aload_n 0) := by decide +kernel
theorem i58_142 : xIns xg 58 142 = some (.getfield 22) := by decide +kernel
theorem i58_145 : xIns xg 58 145 = some (.getfield 135) := by decide +kernel
theorem i58_148 : xIns xg 58 148 = some (.iload_n 1) := by decide +kernel
theorem i58_149 : xIns xg 58 149 = some (.bipush 8) := by decide +kernel
theorem i58_151 : xIns xg 58 151 = some (.imul) := by decide +kernel
theorem i58_152 : xIns xg 58 152 = some (.iload_n 2) := by decide +kernel
theorem i58_153 : xIns xg 58 153 = some (.iadd) := by decide +kernel
theorem i58_154 : xIns xg 58 154 = some (.laload) := by decide +kernel
theorem i58_155 : xIns xg 58 155 = some (.goto 4) := by decide +kernel
theorem i58_163 : xIns xg 58 163 = some (.aload_n 0) := by decide +kernel
theorem i58_164 : xIns xg 58 164 = some (.iload_n 3) := by decide +kernel
theorem i58_165 : xIns xg 58 165 = some (.iload_n 2) := by decide +kernel
theorem i58_166 : xIns xg 58 166 = some (.invokevirtual 34) := by decide +kernel
theorem i58_169 : xIns xg 58 169 = some (.istore 6) := by decide +kernel
theorem i58_171 : xIns xg 58 171 = some (.iload 6) := by decide +kernel
theorem i58_173 : xIns xg 58 173 = some (.iconst 1) := by decide +kernel
theorem i58_174 : xIns xg 58 174 = some (.if_icmp .ne 26) := by decide +kernel
theorem i58_200 : xIns xg 58 200 = some (.iload 6) := by decide +kernel
theorem i58_202 : xIns xg 58 202 = some (.ireturn) := by decide +kernel
theorem i58_177 : xIns xg 58 177 = some (.aload_n 0) := by decide +kernel
theorem i58_178 : xIns xg 58 178 = some (.aload_n 0) := by decide +kernel
theorem i58_179 : xIns xg 58 179 = some (.getfield 22) := by decide +kernel
theorem i58_182 : xIns xg 58 182 = some (.getfield 108) := by decide +kernel
theorem i58_185 : xIns xg 58 185 = some (.iload_n 1) := by decide +kernel
theorem i58_186 : xIns xg 58 186 = some (.iaload) := by decide +kernel
theorem i58_187 : xIns xg 58 187 = some (.aload_n 0) := by decide +kernel
theorem i58_188 : xIns xg 58 188 = some (.getfield 18) := by decide +kernel
theorem i58_191 : xIns xg 58 191 = some (.iload 4) := by decide +kernel
theorem i58_193 : xIns xg 58 193 = some (.i2l) := by decide +kernel
theorem i58_194 : xIns xg 58 194 = some (.invokevirtual 138) := by decide +kernel
theorem i58_197 : xIns xg 58 197 = some (.goto 5) := by decide +kernel
theorem i58_380 : xIns xg 58 380 = some (.aload_n 0) := by decide +kernel
theorem i58_381 : xIns xg 58 381 = some (.iload_n 3) := by decide +kernel
theorem i58_382 : xIns xg 58 382 = some (.iload 5) := by decide +kernel
theorem i58_384 : xIns xg 58 384 = some (.invokevirtual 34) := by decide +kernel
theorem i58_387 : xIns xg 58 387 = some (.ireturn) := by decide +kernel
theorem i58_203 : xIns xg 58 203 = some (.aload_n 0) := by decide +kernel
theorem i58_204 : xIns xg 58 204 = some (.iload_n 3) := by decide +kernel
theorem i58_205 : xIns xg 58 205 = some (.iload_n 2) := by decide +kernel
theorem i58_206 : xIns xg 58 206 = some (.invokevirtual 34) := by decide +kernel
theorem i58_209 : xIns xg 58 209 = some (.istore 6) := by decide +kernel
theorem i58_211 : xIns xg 58 211 = some (.iload 6) := by decide +kernel
theorem i58_213 : xIns xg 58 213 = some (.iconst 1) := by decide +kernel
theorem i58_214 : xIns xg 58 214 = some (.if_icmp .eq 6) := by decide +kernel
theorem i58_220 : xIns xg 58 220 = some (.aload_n 0) := by decide +kernel
theorem i58_221 : xIns xg 58 221 = some (.getfield 18) := by decide +kernel
theorem i58_224 : xIns xg 58 224 = some (.lstore 7) := by decide +kernel
theorem i58_226 : xIns xg 58 226 = some (.aload_n 0) := by decide +kernel
theorem i58_227 : xIns xg 58 227 = some (.aload_n 0) := by decide +kernel
theorem i58_228 : xIns xg 58 228 = some (.getfield 22) := by decide +kernel
theorem i58_231 : xIns xg 58 231 = some (.iload_n 1) := by decide +kernel
theorem i58_232 : xIns xg 58 232 = some (.invokevirtual 105) := by decide +kernel
theorem i58_235 : xIns xg 58 235 = some (.iload_n 2) := by decide +kernel
theorem i58_236 : xIns xg 58 236 = some (.invokevirtual 34) := by decide +kernel
theorem i58_239 : xIns xg 58 239 = some (.istore 6) := by decide +kernel
theorem i58_241 : xIns xg 58 241 = some (.iload 6) := by decide +kernel
theorem i58_243 : xIns xg 58 243 = some (.iconst 1) := by decide +kernel
theorem i58_244 : xIns xg 58 244 = some (.if_icmp .ne 25) := by decide +kernel
theorem i58_269 : xIns xg 58 269 = some (.iload 6) := by decide +kernel
theorem i58_271 : xIns xg 58 271 = some (.ireturn) := by decide +kernel
theorem i58_247 : xIns xg 58 247 = some (.aload_n 0) := by decide +kernel
theorem i58_248 : xIns xg 58 248 = some (.aload_n 0) := by decide +kernel
theorem i58_249 : xIns xg 58 249 = some (.getfield 22) := by decide +kernel
theorem i58_252 : xIns xg 58 252 = some (.getfield 108) := by decide +kernel
theorem i58_255 : xIns xg 58 255 = some (.iload_n 1) := by decide +kernel
theorem i58_256 : xIns xg 58 256 = some (.iaload) := by decide +kernel
theorem i58_257 : xIns xg 58 257 = some (.lload 7) := by decide +kernel
theorem i58_259 : xIns xg 58 259 = some (.aload_n 0) := by decide +kernel
theorem i58_260 : xIns xg 58 260 = some (.getfield 18) := by decide +kernel
theorem i58_263 : xIns xg 58 263 = some (.invokevirtual 138) := by decide +kernel
theorem i58_266 : xIns xg 58 266 = some (.goto 5) := by decide +kernel
theorem i58_217 : xIns xg 58 217 = some (.iload 6) := by decide +kernel
theorem i58_219 : xIns xg 58 219 = some (.ireturn) := by decide +kernel
theorem i58_388 : xIns xg 58 388 = some (.iload 5) := by decide +kernel
theorem i58_390 : xIns xg 58 390 = some (.bipush 64) := by decide +kernel
theorem i58_392 : xIns xg 58 392 = some (.if_icmp .ge 13) := by decide +kernel
theorem i58_405 : xIns xg 58 405 = some (.aload_n 0) := by decide +kernel
theorem i58_406 : xIns xg 58 406 = some (.aload_n 0) := by decide +kernel
theorem i58_407 : xIns xg 58 407 = some (.getfield 22) := by decide +kernel
theorem i58_410 : xIns xg 58 410 = some (.iload_n 1) := by decide +kernel
theorem i58_411 : xIns xg 58 411 = some (.invokevirtual 105) := by decide +kernel
theorem i58_414 : xIns xg 58 414 = some (.iload 5) := by decide +kernel
theorem i58_416 : xIns xg 58 416 = some (.bipush 64) := by decide +kernel
theorem i58_418 : xIns xg 58 418 = some (.isub) := by decide +kernel
theorem i58_419 : xIns xg 58 419 = some (.invokevirtual 34) := by decide +kernel
theorem i58_422 : xIns xg 58 422 = some (.ireturn) := by decide +kernel
theorem i58_395 : xIns xg 58 395 = some (.aload_n 0) := by decide +kernel
theorem i58_396 : xIns xg 58 396 = some (.iload_n 3) := by decide +kernel
theorem i58_397 : xIns xg 58 397 = some (.iload 5) := by decide +kernel
theorem i58_399 : xIns xg 58 399 = some (.invokevirtual 34) := by decide +kernel
theorem i58_402 : xIns xg 58 402 = some (.goto 20) := by decide +kernel
theorem i58_347 : xIns xg 58 347 = some (.aload_n 0) := by decide +kernel
theorem i58_348 : xIns xg 58 348 = some (.iload_n 3) := by decide +kernel
theorem i58_349 : xIns xg 58 349 = some (.iload_n 2) := by decide +kernel
theorem i58_350 : xIns xg 58 350 = some (.iload 4) := by decide +kernel
theorem i58_352 : xIns xg 58 352 = some (.iadd) := by decide +kernel
theorem i58_353 : xIns xg 58 353 = some (.invokevirtual 34) := by decide +kernel
theorem i58_356 : xIns xg 58 356 = some (.ireturn) := by decide +kernel
theorem i58_272 : xIns xg 58 272 = some (.iload_n 2) := by decide +kernel
theorem i58_273 : xIns xg 58 273 = some (.ifCond .ne 10) := by decide +kernel
theorem i58_283 : xIns xg 58 283 = some (.aload_n 0) := by decide +kernel
theorem i58_284 : xIns xg 58 284 = some (.iload_n 1) := by decide +kernel
theorem i58_285 : xIns xg 58 285 = some (.iload_n 2) := by decide +kernel
theorem i58_286 : xIns xg 58 286 = some (.iconst 1) := by decide +kernel
theorem i58_287 : xIns xg 58 287 = some (.isub) := by decide +kernel
theorem i58_288 : xIns xg 58 288 = some (.invokevirtual 34) := by decide +kernel
theorem i58_291 : xIns xg 58 291 = some (.istore 6) := by decide +kernel
theorem i58_293 : xIns xg 58 293 = some (.iload 6) := by decide +kernel
theorem i58_295 : xIns xg 58 295 = some (.iconst 1) := by decide +kernel
theorem i58_296 : xIns xg 58 296 = some (.if_icmp .eq 6) := by decide +kernel
theorem i58_302 : xIns xg 58 302 = some (.aload_n 0) := by decide +kernel
theorem i58_303 : xIns xg 58 303 = some (.getfield 18) := by decide +kernel
theorem i58_306 : xIns xg 58 306 = some (.lstore 7) := by decide +kernel
theorem i58_308 : xIns xg 58 308 = some (.aload_n 0) := by decide +kernel
theorem i58_309 : xIns xg 58 309 = some (.iload_n 3) := by decide +kernel
theorem i58_310 : xIns xg 58 310 = some (.iload_n 2) := by decide +kernel
theorem i58_311 : xIns xg 58 311 = some (.invokevirtual 34) := by decide +kernel
theorem i58_314 : xIns xg 58 314 = some (.istore 6) := by decide +kernel
theorem i58_316 : xIns xg 58 316 = some (.iload 6) := by decide +kernel
theorem i58_318 : xIns xg 58 318 = some (.iconst 1) := by decide +kernel
theorem i58_319 : xIns xg 58 319 = some (.if_icmp .ne 25) := by decide +kernel
theorem i58_344 : xIns xg 58 344 = some (.iload 6) := by decide +kernel
theorem i58_346 : xIns xg 58 346 = some (.ireturn) := by decide +kernel
theorem i58_322 : xIns xg 58 322 = some (.aload_n 0) := by decide +kernel
theorem i58_323 : xIns xg 58 323 = some (.aload_n 0) := by decide +kernel
theorem i58_324 : xIns xg 58 324 = some (.getfield 22) := by decide +kernel
theorem i58_327 : xIns xg 58 327 = some (.getfield 108) := by decide +kernel
theorem i58_330 : xIns xg 58 330 = some (.iload_n 1) := by decide +kernel
theorem i58_331 : xIns xg 58 331 = some (.iaload) := by decide +kernel
theorem i58_332 : xIns xg 58 332 = some (.lload 7) := by decide +kernel
theorem i58_334 : xIns xg 58 334 = some (.aload_n 0) := by decide +kernel
theorem i58_335 : xIns xg 58 335 = some (.getfield 18) := by decide +kernel
theorem i58_338 : xIns xg 58 338 = some (.invokevirtual 138) := by decide +kernel
theorem i58_341 : xIns xg 58 341 = some (.goto 5) := by decide +kernel
theorem i58_299 : xIns xg 58 299 = some (.iload 6) := by decide +kernel
theorem i58_301 : xIns xg 58 301 = some (.ireturn) := by decide +kernel
theorem i58_276 : xIns xg 58 276 = some (.aload_n 0) := by decide +kernel
theorem i58_277 : xIns xg 58 277 = some (.iload_n 3) := by decide +kernel
theorem i58_278 : xIns xg 58 278 = some (.iconst 0) := by decide +kernel
theorem i58_279 : xIns xg 58 279 = some (.invokevirtual 34) := by decide +kernel
theorem i58_282 : xIns xg 58 282 = some (.ireturn) := by decide +kernel
theorem i58_357 : xIns xg 58 357 = some (.iload_n 2) := by decide +kernel
theorem i58_358 : xIns xg 58 358 = some (.ifCond .ne 13) := by decide +kernel
theorem i58_371 : xIns xg 58 371 = some (.aload_n 0) := by decide +kernel
theorem i58_372 : xIns xg 58 372 = some (.iload_n 3) := by decide +kernel
theorem i58_373 : xIns xg 58 373 = some (.iload_n 2) := by decide +kernel
theorem i58_374 : xIns xg 58 374 = some (.iconst 1) := by decide +kernel
theorem i58_375 : xIns xg 58 375 = some (.isub) := by decide +kernel
theorem i58_376 : xIns xg 58 376 = some (.invokevirtual 34) := by decide +kernel
theorem i58_379 : xIns xg 58 379 = some (.ireturn) := by decide +kernel
theorem i58_361 : xIns xg 58 361 = some (.aload_n 0) := by decide +kernel
theorem i58_362 : xIns xg 58 362 = some (.iload 4) := by decide +kernel
theorem i58_364 : xIns xg 58 364 = some (.i2l) := by decide +kernel
theorem i58_365 : xIns xg 58 365 = some (.invokevirtual 131) := by decide +kernel
theorem i58_368 : xIns xg 58 368 = some (.goto 11) := by decide +kernel
theorem i58_423 : xIns xg 58 423 = some (.lconst 0) := by decide +kernel
theorem i58_424 : xIns xg 58 424 = some (.lstore 7) := by decide +kernel
theorem i58_426 : xIns xg 58 426 = some (.iconst 0) := by decide +kernel
theorem i58_427 : xIns xg 58 427 = some (.istore 9) := by decide +kernel
theorem i58_481 : xIns xg 58 481 = some (.aload_n 0) := by decide +kernel
theorem i58_482 : xIns xg 58 482 = some (.iload_n 3) := by decide +kernel
theorem i58_483 : xIns xg 58 483 = some (.iload_n 2) := by decide +kernel
theorem i58_484 : xIns xg 58 484 = some (.invokevirtual 34) := by decide +kernel
theorem i58_487 : xIns xg 58 487 = some (.ireturn) := by decide +kernel
def d_x4_tellHead_429 (N : Nat) (r_askPlace : St → Int → Int → Option Rs) (r_askHead : St → Int → Int → Option Rs) (t : Nat)  (k429 : St → Int → Int → Int → Int → Int → Option Rs) (s : St) (x2 : Int) (x3 : Int) (x4 : Int) (x7 : Int) (x9 : Int) : Option Rs :=
  (if (w32 x9) < (w32 x4) then bI (r_askHead s x3 ((x4 * x2) + x9)) fun s3 v4 => (if (w32 v4) = 1 then bd (x7 + (s3 50 4)) fun v5 => bd (x9 + 1) fun v6 => k429 s3 x2 x3 x4 v5 v6 else some (s3, v4)) else bI (d_x4_tellNumber N  s x7) fun s1 v2 => some (s1, v2))
def d_x4_tellHead_429L (N : Nat) (r_askPlace : St → Int → Int → Option Rs) (r_askHead : St → Int → Int → Option Rs) (t : Nat)  : Nat → St → Int → Int → Int → Int → Int → Option Rs
  | 0 => fun _ _ _ _ _ _ => none
  | n + 1 => d_x4_tellHead_429 N r_askPlace r_askHead t  (d_x4_tellHead_429L N r_askPlace r_askHead t  n)
set_option maxHeartbeats 4000000 in
set_option maxRecDepth 100000 in
theorem c_x4_tellHead_429 {sc : xS} {d : Nat} {R : Rs} (N : Nat) (r_askPlace : St → Int → Int → Option Rs) (r_askHead : St → Int → Int → Option Rs) (t : Nat) (e : Nat) (hr_askPlace : ∀ d, e ≤ d → ∀ (s : St) (a0 a1 : Int) (R : Rs), r_askPlace s a0 a1 = some R → vT sc d 41 0 [(0, .ref 50), (1, vi a0), (2, vi a1)] [] s (fun r => r = qI R)) (hr_askHead : ∀ d, e ≤ d → ∀ (s : St) (a0 a1 : Int) (R : Rs), r_askHead s a0 a1 = some R → vT sc d 40 0 [(0, .ref 50), (1, vi a0), (2, vi a1)] [] s (fun r => r = qI R)) (H : isTold t) (hd : e + 1 ≤ d)   (k429 : St → Int → Int → Int → Int → Int → Option Rs) (hk429 : ∀ (s : St) (x2 : Int) (x3 : Int) (x4 : Int) (x7 : Int) (x9 : Int), k429 s x2 x3 x4 x7 x9 = some R → vT sc d 58 429 [(0, .ref 50), (2, vi x2), (3, vi x3), (4, vi x4), (7, vl x7), (9, vi x9)] [] s (fun r => r = qI R)) (s : St) (x2 : Int) (x3 : Int) (x4 : Int) (x7 : Int) (x9 : Int) : d_x4_tellHead_429 N r_askPlace r_askHead t  k429 s x2 x3 x4 x7 x9 = some R → vT sc d 58 429 [(0, .ref 50), (2, vi x2), (3, vi x3), (4, vi x4), (7, vl x7), (9, vi x9)] [] s (fun r => r = qI R) := by
  obtain ⟨d, rfl⟩ : ∃ d', d = d' + 1 := ⟨d - 1, by omega⟩
  unfold d_x4_tellHead_429
  refine vLi 431 i58_429 rfl rfl ?_
  refine vLi 433 i58_431 rfl rfl ?_
  refine vCge 474 436 rfl rfl i58_433 rfl rfl ?_ ?_
  · refine vLan 475 i58_474 rfl rfl ?_
    refine vLl 477 i58_475 rfl rfl ?_
    refine vCallI 480 [.ref 50, vl x7] [] [(0, .ref 50), (1, vl x7)] i58_477 rfl (xlk0 l58_131) (Or.inl rfl) m59 rfl rfl (Nat.le_of_ble_eq_true rfl) (Nat.le_of_ble_eq_true rfl) (Nat.le_of_ble_eq_true rfl) (xh0 sh_50 (by decide)) rfl rfl (fun R1 => c_x4_tellNumber N   (by omega) s x7) (fun s1 v2 => ?_)
    exact vRi i58_480 m58 rfl
  · refine vLan 437 i58_436 rfl rfl ?_
    refine vLin 438 i58_437 rfl rfl ?_
    refine vLi 440 i58_438 rfl rfl ?_
    refine vLin 441 i58_440 rfl rfl ?_
    refine vImul 442 i58_441 rfl ?_
    refine vLi 444 i58_442 rfl rfl ?_
    refine vIadd 445 i58_444 rfl ?_
    refine vCallI 448 [.ref 50, vi x3, vi ((x4 * x2) + x9)] [] [(0, .ref 50), (1, vi x3), (2, vi ((x4 * x2) + x9))] i58_445 rfl (xlk0 l58_34) (Or.inl rfl) m40 rfl rfl (Nat.le_of_ble_eq_true rfl) (Nat.le_of_ble_eq_true rfl) (Nat.le_of_ble_eq_true rfl) (xh0 sh_50 (by decide)) rfl rfl (hr_askHead d (by omega) s x3 ((x4 * x2) + x9)) (fun s3 v4 => ?_)
    refine vSi0 450 [(6, vi v4), (0, .ref 50), (2, vi x2), (3, vi x3), (4, vi x4), (7, vl x7), (9, vi x9)] i58_448 m58 (by decide) rfl rfl ?_
    refine vLi 452 i58_450 rfl rfl ?_
    refine vK 453 i58_452 rfl ?_
    refine vCeq 459 456 rfl (show w32 1 = 1 from rfl) i58_453 rfl rfl ?_ ?_
    · refine vLl 461 i58_459 rfl rfl ?_
      refine vLan 462 i58_461 rfl rfl ?_
      refine vGetL 465 i58_462 f58_18 sh_50 rfl rfl ?_
      refine vLadd 466 i58_465 rfl ?_
      refine vSl 468 (fun v5 => [(7, vl v5), (6, vi v4), (0, .ref 50), (2, vi x2), (3, vi x3), (4, vi x4), (9, vi x9)]) i58_466 m58 (by decide) (fun v5 => (rfl : xst2 [(6, vi v4), (0, .ref 50), (2, vi x2), (3, vi x3), (4, vi x4), (7, vl x7), (9, vi x9)] 7 (vl v5) = [(7, vl v5), (6, vi v4), (0, .ref 50), (2, vi x2), (3, vi x3), (4, vi x4), (9, vi x9)])) rfl (fun v5 => ?_)
      refine vInc 471 (fun v6 => [(9, vi v6), (7, vl v5), (6, vi v4), (0, .ref 50), (2, vi x2), (3, vi x3), (4, vi x4)]) i58_468 m58 (by decide) rfl (fun _ => rfl) rfl (fun v6 => ?_)
      refine vGo 429 i58_471 rfl ?_
      exact fun hD => tLc [(0, .ref 50), (2, vi x2), (3, vi x3), (4, vi x4), (7, vl v5), (9, vi v6)] (xNdk [0, 2, 3, 4, 7, 9] rfl (by decide)) (xNdk [9, 7, 6, 0, 2, 3, 4] rfl (by decide)) ⟨rfl, rfl, rfl, rfl, rfl, rfl, trivial⟩ (hk429 s3 x2 x3 x4 v5 v6 hD)
    · refine vLi 458 i58_456 rfl rfl ?_
      exact vRi i58_458 m58 rfl
theorem c_x4_tellHead_429L {sc : xS} {d : Nat} {R : Rs} (N : Nat) (r_askPlace : St → Int → Int → Option Rs) (r_askHead : St → Int → Int → Option Rs) (t : Nat) (e : Nat) (hr_askPlace : ∀ d, e ≤ d → ∀ (s : St) (a0 a1 : Int) (R : Rs), r_askPlace s a0 a1 = some R → vT sc d 41 0 [(0, .ref 50), (1, vi a0), (2, vi a1)] [] s (fun r => r = qI R)) (hr_askHead : ∀ d, e ≤ d → ∀ (s : St) (a0 a1 : Int) (R : Rs), r_askHead s a0 a1 = some R → vT sc d 40 0 [(0, .ref 50), (1, vi a0), (2, vi a1)] [] s (fun r => r = qI R)) (H : isTold t) (hd : e + 1 ≤ d)   : ∀ (n : Nat) (s : St) (x2 : Int) (x3 : Int) (x4 : Int) (x7 : Int) (x9 : Int), d_x4_tellHead_429L N r_askPlace r_askHead t  n s x2 x3 x4 x7 x9 = some R → vT sc d 58 429 [(0, .ref 50), (2, vi x2), (3, vi x3), (4, vi x4), (7, vl x7), (9, vi x9)] [] s (fun r => r = qI R) := by
  intro n
  induction n with
  | zero => intro s x2 x3 x4 x7 x9 hD; cases hD
  | succ n ih => intro s x2 x3 x4 x7 x9 hD; exact c_x4_tellHead_429 N r_askPlace r_askHead t e hr_askPlace hr_askHead H hd  _ ih s x2 x3 x4 x7 x9 hD
def d_x4_tellHead_159 (N : Nat) (r_askPlace : St → Int → Int → Option Rs) (r_askHead : St → Int → Int → Option Rs) (t : Nat)  (s : St) (z0 : Int) : Option Rs :=
  bI (d_x4_tellNumber N  s z0) fun s7 v8 => some (s7, v8)
set_option maxHeartbeats 4000000 in
set_option maxRecDepth 100000 in
theorem c_x4_tellHead_159 {sc : xS} {d : Nat} {R : Rs} (N : Nat) (r_askPlace : St → Int → Int → Option Rs) (r_askHead : St → Int → Int → Option Rs) (t : Nat) (e : Nat) (hr_askPlace : ∀ d, e ≤ d → ∀ (s : St) (a0 a1 : Int) (R : Rs), r_askPlace s a0 a1 = some R → vT sc d 41 0 [(0, .ref 50), (1, vi a0), (2, vi a1)] [] s (fun r => r = qI R)) (hr_askHead : ∀ d, e ≤ d → ∀ (s : St) (a0 a1 : Int) (R : Rs), r_askHead s a0 a1 = some R → vT sc d 40 0 [(0, .ref 50), (1, vi a0), (2, vi a1)] [] s (fun r => r = qI R)) (H : isTold t) (hd : e + 1 ≤ d)   (s : St) (z0 : Int) : d_x4_tellHead_159 N r_askPlace r_askHead t  s z0 = some R → vT sc d 58 159 [] [vl z0, .ref 50] s (fun r => r = qI R) := by
  obtain ⟨d, rfl⟩ : ∃ d', d = d' + 1 := ⟨d - 1, by omega⟩
  unfold d_x4_tellHead_159
  refine vCallI 162 [.ref 50, vl z0] [] [(0, .ref 50), (1, vl z0)] i58_159 rfl (xlk0 l58_131) (Or.inl rfl) m59 rfl rfl (Nat.le_of_ble_eq_true rfl) (Nat.le_of_ble_eq_true rfl) (Nat.le_of_ble_eq_true rfl) (xh0 sh_50 (by decide)) rfl rfl (fun R1 => c_x4_tellNumber N   (by omega) s z0) (fun s7 v8 => ?_)
  exact vRi i58_162 m58 rfl
def d_x4_tellHead (N : Nat) (r_askPlace : St → Int → Int → Option Rs) (r_askHead : St → Int → Int → Option Rs) (t : Nat)  (s : St) (a0 : Int) (a1 : Int) : Option Rs :=
  bI (d_x5_firstRow N 17 8 s a0) fun s9 v10 => if 0 ≤ (w32 a0) ∧ (w32 a0) < ((192 : Nat) : Int) then bd (s9 21 (Int.toNat (w32 a0))) fun v11 => if s9 50 1 = (t : Int) then if 0 ≤ (w32 ((a0 * 64) + a1)) ∧ (w32 ((a0 * 64) + a1)) < ((12288 : Nat) : Int) then bd (s9 (t + 9) (Int.toNat (w32 ((a0 * 64) + a1)))) fun v12 => if 0 ≤ (w32 a0) ∧ (w32 a0) < ((192 : Nat) : Int) then (if (w32 (s9 19 (Int.toNat (w32 a0)))) = 1 then if 0 ≤ (w32 a0) ∧ (w32 a0) < ((192 : Nat) : Int) then bI (d_x4_tellNumber N  s9 ((w32 v11) + ((w32 a1) * (w32 (s9 22 (Int.toNat (w32 a0))))))) fun s13 v14 => some (s13, v14) else none else (if (w32 (s9 19 (Int.toNat (w32 a0)))) = 2 then (if (w32 a1) < 8 then if 0 ≤ (w32 ((a0 * 8) + a1)) ∧ (w32 ((a0 * 8) + a1)) < ((1536 : Nat) : Int) then d_x4_tellHead_159 N r_askPlace r_askHead t  s9 (s9 25 (Int.toNat (w32 ((a0 * 8) + a1)))) else none else d_x4_tellHead_159 N r_askPlace r_askHead t  s9 0) else (if (w32 (s9 19 (Int.toNat (w32 a0)))) = 3 then bI (r_askHead s9 v10 a1) fun s15 v16 => (if (w32 v16) = 1 then if 0 ≤ (w32 a0) ∧ (w32 a0) < ((192 : Nat) : Int) then bI (d_x4_combine N  s15 (s15 20 (Int.toNat (w32 a0))) (s15 50 4) (w32 v11)) fun s17 v18 => some (s17, v18) else none else some (s15, v16)) else (if (w32 (s9 19 (Int.toNat (w32 a0)))) = 4 then bI (r_askHead s9 v10 v12) fun s19 v20 => some (s19, v20) else (if (w32 (s9 19 (Int.toNat (w32 a0)))) = 6 then bI (r_askHead s9 v10 a1) fun s21 v22 => (if (w32 v22) = 1 then bd (s21 50 4) fun v23 => bI (d_x5_secondRow N 17 8 s21 a0) fun s24 v25 => bI (r_askHead s24 v25 a1) fun s26 v27 => (if (w32 v27) = 1 then if 0 ≤ (w32 a0) ∧ (w32 a0) < ((192 : Nat) : Int) then bI (d_x4_combine N  s26 (s26 20 (Int.toNat (w32 a0))) v23 (s26 50 4)) fun s28 v29 => some (s28, v29) else none else some (s26, v27)) else some (s21, v22)) else (if (w32 (s9 19 (Int.toNat (w32 a0)))) = 7 then (if (w32 v12) < 64 then bI (r_askHead s9 v10 v12) fun s34 v35 => some (s34, v35) else bI (d_x5_secondRow N 17 8 s9 a0) fun s30 v31 => bI (r_askHead s30 v31 (v12 - 64)) fun s32 v33 => some (s32, v33)) else (if (w32 (s9 19 (Int.toNat (w32 a0)))) = 9 then bI (r_askHead s9 v10 (a1 + v11)) fun s36 v37 => some (s36, v37) else (if (w32 (s9 19 (Int.toNat (w32 a0)))) = 10 then (if (w32 a1) = 0 then bI (r_askHead s9 v10 0) fun s45 v46 => some (s45, v46) else bI (r_askHead s9 a0 (a1 - 1)) fun s38 v39 => (if (w32 v39) = 1 then bd (s38 50 4) fun v40 => bI (r_askHead s38 v10 a1) fun s41 v42 => (if (w32 v42) = 1 then if 0 ≤ (w32 a0) ∧ (w32 a0) < ((192 : Nat) : Int) then bI (d_x4_combine N  s41 (s41 20 (Int.toNat (w32 a0))) v40 (s41 50 4)) fun s43 v44 => some (s43, v44) else none else some (s41, v42)) else some (s38, v39))) else (if (w32 (s9 19 (Int.toNat (w32 a0)))) = 11 then bI (r_askHead s9 v10 v12) fun s47 v48 => some (s47, v48) else (if (w32 (s9 19 (Int.toNat (w32 a0)))) = 12 then (if (w32 a1) = 0 then bI (d_x4_tellNumber N  s9 (w32 v11)) fun s51 v52 => some (s51, v52) else bI (r_askHead s9 v10 (a1 - 1)) fun s49 v50 => some (s49, v50)) else (if (w32 (s9 19 (Int.toNat (w32 a0)))) = 13 then d_x4_tellHead_429L N r_askPlace r_askHead t  N s9 a1 v10 v11 0 0 else (if (w32 (s9 19 (Int.toNat (w32 a0)))) = 5 then bI (r_askHead s9 v10 a1) fun s53 v54 => some (s53, v54) else (if (w32 (s9 19 (Int.toNat (w32 a0)))) = 8 then bI (r_askHead s9 v10 a1) fun s53 v54 => some (s53, v54) else bI (r_askHead s9 v10 a1) fun s53 v54 => some (s53, v54)))))))))))))) else none else none else none else none
set_option maxHeartbeats 4000000 in
set_option maxRecDepth 100000 in
theorem c_x4_tellHead {sc : xS} {d : Nat} {R : Rs} (N : Nat) (r_askPlace : St → Int → Int → Option Rs) (r_askHead : St → Int → Int → Option Rs) (t : Nat) (e : Nat) (hr_askPlace : ∀ d, e ≤ d → ∀ (s : St) (a0 a1 : Int) (R : Rs), r_askPlace s a0 a1 = some R → vT sc d 41 0 [(0, .ref 50), (1, vi a0), (2, vi a1)] [] s (fun r => r = qI R)) (hr_askHead : ∀ d, e ≤ d → ∀ (s : St) (a0 a1 : Int) (R : Rs), r_askHead s a0 a1 = some R → vT sc d 40 0 [(0, .ref 50), (1, vi a0), (2, vi a1)] [] s (fun r => r = qI R)) (H : isTold t) (hd : e + 1 ≤ d)   (s : St) (a0 : Int) (a1 : Int) : d_x4_tellHead N r_askPlace r_askHead t  s a0 a1 = some R → vT sc d 58 0 [(0, .ref 50), (1, vi a0), (2, vi a1)] [] s (fun r => r = qI R) := by
  obtain ⟨d, rfl⟩ : ∃ d', d = d' + 1 := ⟨d - 1, by omega⟩
  unfold d_x4_tellHead
  refine vLan 1 i58_0 rfl rfl ?_
  refine vGetC 4 i58_1 f58_22 sh_50 rfl rfl ?_
  refine vLin 5 i58_4 rfl rfl ?_
  refine vCallI 8 [.ref 17, vi a0] [] [(0, .ref 17), (1, vi a0)] i58_5 rfl (xlk0 l58_99) (Or.inl rfl) m65 rfl rfl (Nat.le_of_ble_eq_true rfl) (Nat.le_of_ble_eq_true rfl) (Nat.le_of_ble_eq_true rfl) (xh0 sh_17 (by decide)) rfl rfl (fun R1 => c_x5_firstRow N 17 8 isTexts_17 (by omega) s a0) (fun s9 v10 => ?_)
  refine vSin0 9 [(3, vi v10), (0, .ref 50), (1, vi a0), (2, vi a1)] i58_8 m58 (by decide) rfl rfl ?_
  refine vLan 10 i58_9 rfl rfl ?_
  refine vGetC 13 i58_10 f58_22 sh_50 rfl rfl ?_
  refine vGetC 16 i58_13 f58_94 sh_17 rfl rfl ?_
  refine vLin 17 i58_16 rfl rfl ?_
  refine vIal 18 rfl i58_17 sh_21 rfl ?_
  refine vSi 20 (fun v11 => [(4, vi v11), (3, vi v10), (0, .ref 50), (1, vi a0), (2, vi a1)]) i58_18 m58 (by decide) (fun v11 => (rfl : xst1 [(3, vi v10), (0, .ref 50), (1, vi a0), (2, vi a1)] 4 (vi v11) = [(4, vi v11), (3, vi v10), (0, .ref 50), (1, vi a0), (2, vi a1)])) rfl (fun v11 => ?_)
  refine vLan 21 i58_20 rfl rfl ?_
  refine vGetR 24 i58_21 f58_26 sh_50 rfl rfl ?_
  refine vGetC 27 i58_24 f58_122 (told_0 H) rfl rfl ?_
  refine vLin 28 i58_27 rfl rfl ?_
  refine vKb 30 i58_28 (by decide) rfl ?_
  refine vImul 31 i58_30 rfl ?_
  refine vLin 32 i58_31 rfl rfl ?_
  refine vIadd 33 i58_32 rfl ?_
  refine vBal 34 rfl i58_33 (told_9 H) rfl ?_
  refine vSi 36 (fun v12 => [(5, vi v12), (4, vi v11), (3, vi v10), (0, .ref 50), (1, vi a0), (2, vi a1)]) i58_34 m58 (by decide) (fun v12 => (rfl : xst1 [(4, vi v11), (3, vi v10), (0, .ref 50), (1, vi a0), (2, vi a1)] 5 (vi v12) = [(5, vi v12), (4, vi v11), (3, vi v10), (0, .ref 50), (1, vi a0), (2, vi a1)])) rfl (fun v12 => ?_)
  refine vLan 37 i58_36 rfl rfl ?_
  refine vGetC 40 i58_37 f58_22 sh_50 rfl rfl ?_
  refine vGetC 43 i58_40 f58_69 sh_17 rfl rfl ?_
  refine vLin 44 i58_43 rfl rfl ?_
  refine vIal 45 rfl i58_44 sh_19 rfl ?_
  refine vSw 112 (v := 1) rfl i58_45 rfl rfl ?_ (fun h1 => ?_)
  · refine vLan 113 i58_112 rfl rfl ?_
    refine vLi 115 i58_113 rfl rfl ?_
    refine vI2l 116 i58_115 rfl ?_
    refine vLin 117 i58_116 rfl rfl ?_
    refine vI2l 118 i58_117 rfl ?_
    refine vLan 119 i58_118 rfl rfl ?_
    refine vGetC 122 i58_119 f58_22 sh_50 rfl rfl ?_
    refine vGetC 125 i58_122 f58_128 sh_17 rfl rfl ?_
    refine vLin 126 i58_125 rfl rfl ?_
    refine vIal 127 rfl i58_126 sh_22 rfl ?_
    refine vI2l 128 i58_127 rfl ?_
    refine vLmul 129 i58_128 rfl ?_
    refine vLadd 130 i58_129 rfl ?_
    refine vCallI 133 [.ref 50, vl ((w32 v11) + ((w32 a1) * (w32 (s9 22 (Int.toNat (w32 a0))))))] [] [(0, .ref 50), (1, vl ((w32 v11) + ((w32 a1) * (w32 (s9 22 (Int.toNat (w32 a0)))))))] i58_130 rfl (xlk0 l58_131) (Or.inl rfl) m59 rfl rfl (Nat.le_of_ble_eq_true rfl) (Nat.le_of_ble_eq_true rfl) (Nat.le_of_ble_eq_true rfl) (xh0 sh_50 (by decide)) rfl rfl (fun R1 => c_x4_tellNumber N   (by omega) s9 ((w32 v11) + ((w32 a1) * (w32 (s9 22 (Int.toNat (w32 a0))))))) (fun s13 v14 => ?_)
    exact vRi i58_133 m58 rfl
  refine vSw 134 (v := 2) rfl i58_45 rfl rfl ?_ (fun h2 => ?_)
  · refine vLan 135 i58_134 rfl rfl ?_
    refine vLin 136 i58_135 rfl rfl ?_
    refine vKb 138 i58_136 (by decide) rfl ?_
    refine vCge 158 141 rfl (show w32 8 = 8 from rfl) i58_138 rfl rfl ?_ ?_
    · refine vKl 159 0 i58_158 (by decide) rfl ?_
      exact fun hD => tLc [] (xNdk [] rfl (by decide)) (xNdk [5, 4, 3, 0, 1, 2] rfl (by decide)) trivial (c_x4_tellHead_159 N r_askPlace r_askHead t e hr_askPlace hr_askHead H hd  s9 0 hD)
    · refine vLan 142 i58_141 rfl rfl ?_
      refine vGetC 145 i58_142 f58_22 sh_50 rfl rfl ?_
      refine vGetC 148 i58_145 f58_135 sh_17 rfl rfl ?_
      refine vLin 149 i58_148 rfl rfl ?_
      refine vKb 151 i58_149 (by decide) rfl ?_
      refine vImul 152 i58_151 rfl ?_
      refine vLin 153 i58_152 rfl rfl ?_
      refine vIadd 154 i58_153 rfl ?_
      refine vLal 155 rfl i58_154 sh_25 rfl ?_
      refine vGo 159 i58_155 rfl ?_
      exact fun hD => tLc [] (xNdk [] rfl (by decide)) (xNdk [5, 4, 3, 0, 1, 2] rfl (by decide)) trivial (c_x4_tellHead_159 N r_askPlace r_askHead t e hr_askPlace hr_askHead H hd  s9 (s9 25 (Int.toNat (w32 ((a0 * 8) + a1)))) hD)
  refine vSw 163 (v := 3) rfl i58_45 rfl rfl ?_ (fun h3 => ?_)
  · refine vLan 164 i58_163 rfl rfl ?_
    refine vLin 165 i58_164 rfl rfl ?_
    refine vLin 166 i58_165 rfl rfl ?_
    refine vCallI 169 [.ref 50, vi v10, vi a1] [] [(0, .ref 50), (1, vi v10), (2, vi a1)] i58_166 rfl (xlk0 l58_34) (Or.inl rfl) m40 rfl rfl (Nat.le_of_ble_eq_true rfl) (Nat.le_of_ble_eq_true rfl) (Nat.le_of_ble_eq_true rfl) (xh0 sh_50 (by decide)) rfl rfl (hr_askHead d (by omega) s9 v10 a1) (fun s15 v16 => ?_)
    refine vSi0 171 [(6, vi v16), (5, vi v12), (4, vi v11), (3, vi v10), (0, .ref 50), (1, vi a0), (2, vi a1)] i58_169 m58 (by decide) rfl rfl ?_
    refine vLi 173 i58_171 rfl rfl ?_
    refine vK 174 i58_173 rfl ?_
    refine vCne 200 177 rfl (show w32 1 = 1 from rfl) i58_174 rfl rfl ?_ ?_
    · refine vLi 202 i58_200 rfl rfl ?_
      exact vRi i58_202 m58 rfl
    · refine vLan 178 i58_177 rfl rfl ?_
      refine vLan 179 i58_178 rfl rfl ?_
      refine vGetC 182 i58_179 f58_22 sh_50 rfl rfl ?_
      refine vGetC 185 i58_182 f58_108 sh_17 rfl rfl ?_
      refine vLin 186 i58_185 rfl rfl ?_
      refine vIal 187 rfl i58_186 sh_20 rfl ?_
      refine vLan 188 i58_187 rfl rfl ?_
      refine vGetL 191 i58_188 f58_18 sh_50 rfl rfl ?_
      refine vLi 193 i58_191 rfl rfl ?_
      refine vI2l 194 i58_193 rfl ?_
      refine vCallI 197 [.ref 50, vi (s15 20 (Int.toNat (w32 a0))), vl (s15 50 4), vl (w32 v11)] [] [(0, .ref 50), (1, vi (s15 20 (Int.toNat (w32 a0)))), (2, vl (s15 50 4)), (4, vl (w32 v11))] i58_194 rfl (xlk0 l58_138) (Or.inl rfl) m45 rfl rfl (Nat.le_of_ble_eq_true rfl) (Nat.le_of_ble_eq_true rfl) (Nat.le_of_ble_eq_true rfl) (xh0 sh_50 (by decide)) rfl rfl (fun R1 => c_x4_combine N   (by omega) s15 (s15 20 (Int.toNat (w32 a0))) (s15 50 4) (w32 v11)) (fun s17 v18 => ?_)
      refine vGo 202 i58_197 rfl ?_
      exact vRi i58_202 m58 rfl
  refine vSw 380 (v := 4) rfl i58_45 rfl rfl ?_ (fun h4 => ?_)
  · refine vLan 381 i58_380 rfl rfl ?_
    refine vLin 382 i58_381 rfl rfl ?_
    refine vLi 384 i58_382 rfl rfl ?_
    refine vCallI 387 [.ref 50, vi v10, vi v12] [] [(0, .ref 50), (1, vi v10), (2, vi v12)] i58_384 rfl (xlk0 l58_34) (Or.inl rfl) m40 rfl rfl (Nat.le_of_ble_eq_true rfl) (Nat.le_of_ble_eq_true rfl) (Nat.le_of_ble_eq_true rfl) (xh0 sh_50 (by decide)) rfl rfl (hr_askHead d (by omega) s9 v10 v12) (fun s19 v20 => ?_)
    exact vRi i58_387 m58 rfl
  refine vSw 203 (v := 6) rfl i58_45 rfl rfl ?_ (fun h6 => ?_)
  · refine vLan 204 i58_203 rfl rfl ?_
    refine vLin 205 i58_204 rfl rfl ?_
    refine vLin 206 i58_205 rfl rfl ?_
    refine vCallI 209 [.ref 50, vi v10, vi a1] [] [(0, .ref 50), (1, vi v10), (2, vi a1)] i58_206 rfl (xlk0 l58_34) (Or.inl rfl) m40 rfl rfl (Nat.le_of_ble_eq_true rfl) (Nat.le_of_ble_eq_true rfl) (Nat.le_of_ble_eq_true rfl) (xh0 sh_50 (by decide)) rfl rfl (hr_askHead d (by omega) s9 v10 a1) (fun s21 v22 => ?_)
    refine vSi0 211 [(6, vi v22), (5, vi v12), (4, vi v11), (3, vi v10), (0, .ref 50), (1, vi a0), (2, vi a1)] i58_209 m58 (by decide) rfl rfl ?_
    refine vLi 213 i58_211 rfl rfl ?_
    refine vK 214 i58_213 rfl ?_
    refine vCeq 220 217 rfl (show w32 1 = 1 from rfl) i58_214 rfl rfl ?_ ?_
    · refine vLan 221 i58_220 rfl rfl ?_
      refine vGetL 224 i58_221 f58_18 sh_50 rfl rfl ?_
      refine vSl 226 (fun v23 => [(7, vl v23), (6, vi v22), (5, vi v12), (4, vi v11), (3, vi v10), (0, .ref 50), (1, vi a0), (2, vi a1)]) i58_224 m58 (by decide) (fun v23 => (rfl : xst2 [(6, vi v22), (5, vi v12), (4, vi v11), (3, vi v10), (0, .ref 50), (1, vi a0), (2, vi a1)] 7 (vl v23) = [(7, vl v23), (6, vi v22), (5, vi v12), (4, vi v11), (3, vi v10), (0, .ref 50), (1, vi a0), (2, vi a1)])) rfl (fun v23 => ?_)
      refine vLan 227 i58_226 rfl rfl ?_
      refine vLan 228 i58_227 rfl rfl ?_
      refine vGetC 231 i58_228 f58_22 sh_50 rfl rfl ?_
      refine vLin 232 i58_231 rfl rfl ?_
      refine vCallI 235 [.ref 17, vi a0] [.ref 50] [(0, .ref 17), (1, vi a0)] i58_232 rfl (xlk0 l58_105) (Or.inl rfl) m67 rfl rfl (Nat.le_of_ble_eq_true rfl) (Nat.le_of_ble_eq_true rfl) (Nat.le_of_ble_eq_true rfl) (xh0 sh_17 (by decide)) rfl rfl (fun R1 => c_x5_secondRow N 17 8 isTexts_17 (by omega) s21 a0) (fun s24 v25 => ?_)
      refine vLin 236 i58_235 rfl rfl ?_
      refine vCallI 239 [.ref 50, vi v25, vi a1] [] [(0, .ref 50), (1, vi v25), (2, vi a1)] i58_236 rfl (xlk0 l58_34) (Or.inl rfl) m40 rfl rfl (Nat.le_of_ble_eq_true rfl) (Nat.le_of_ble_eq_true rfl) (Nat.le_of_ble_eq_true rfl) (xh0 sh_50 (by decide)) rfl rfl (hr_askHead d (by omega) s24 v25 a1) (fun s26 v27 => ?_)
      refine vSi0 241 [(6, vi v27), (7, vl v23), (5, vi v12), (4, vi v11), (3, vi v10), (0, .ref 50), (1, vi a0), (2, vi a1)] i58_239 m58 (by decide) rfl rfl ?_
      refine vLi 243 i58_241 rfl rfl ?_
      refine vK 244 i58_243 rfl ?_
      refine vCne 269 247 rfl (show w32 1 = 1 from rfl) i58_244 rfl rfl ?_ ?_
      · refine vLi 271 i58_269 rfl rfl ?_
        exact vRi i58_271 m58 rfl
      · refine vLan 248 i58_247 rfl rfl ?_
        refine vLan 249 i58_248 rfl rfl ?_
        refine vGetC 252 i58_249 f58_22 sh_50 rfl rfl ?_
        refine vGetC 255 i58_252 f58_108 sh_17 rfl rfl ?_
        refine vLin 256 i58_255 rfl rfl ?_
        refine vIal 257 rfl i58_256 sh_20 rfl ?_
        refine vLl 259 i58_257 rfl rfl ?_
        refine vLan 260 i58_259 rfl rfl ?_
        refine vGetL 263 i58_260 f58_18 sh_50 rfl rfl ?_
        refine vCallI 266 [.ref 50, vi (s26 20 (Int.toNat (w32 a0))), vl v23, vl (s26 50 4)] [] [(0, .ref 50), (1, vi (s26 20 (Int.toNat (w32 a0)))), (2, vl v23), (4, vl (s26 50 4))] i58_263 rfl (xlk0 l58_138) (Or.inl rfl) m45 rfl rfl (Nat.le_of_ble_eq_true rfl) (Nat.le_of_ble_eq_true rfl) (Nat.le_of_ble_eq_true rfl) (xh0 sh_50 (by decide)) rfl rfl (fun R1 => c_x4_combine N   (by omega) s26 (s26 20 (Int.toNat (w32 a0))) v23 (s26 50 4)) (fun s28 v29 => ?_)
        refine vGo 271 i58_266 rfl ?_
        exact vRi i58_271 m58 rfl
    · refine vLi 219 i58_217 rfl rfl ?_
      exact vRi i58_219 m58 rfl
  refine vSw 388 (v := 7) rfl i58_45 rfl rfl ?_ (fun h7 => ?_)
  · refine vLi 390 i58_388 rfl rfl ?_
    refine vKb 392 i58_390 (by decide) rfl ?_
    refine vCge 405 395 rfl (show w32 64 = 64 from rfl) i58_392 rfl rfl ?_ ?_
    · refine vLan 406 i58_405 rfl rfl ?_
      refine vLan 407 i58_406 rfl rfl ?_
      refine vGetC 410 i58_407 f58_22 sh_50 rfl rfl ?_
      refine vLin 411 i58_410 rfl rfl ?_
      refine vCallI 414 [.ref 17, vi a0] [.ref 50] [(0, .ref 17), (1, vi a0)] i58_411 rfl (xlk0 l58_105) (Or.inl rfl) m67 rfl rfl (Nat.le_of_ble_eq_true rfl) (Nat.le_of_ble_eq_true rfl) (Nat.le_of_ble_eq_true rfl) (xh0 sh_17 (by decide)) rfl rfl (fun R1 => c_x5_secondRow N 17 8 isTexts_17 (by omega) s9 a0) (fun s30 v31 => ?_)
      refine vLi 416 i58_414 rfl rfl ?_
      refine vKb 418 i58_416 (by decide) rfl ?_
      refine vIsub 419 i58_418 rfl ?_
      refine vCallI 422 [.ref 50, vi v31, vi (v12 - 64)] [] [(0, .ref 50), (1, vi v31), (2, vi (v12 - 64))] i58_419 rfl (xlk0 l58_34) (Or.inl rfl) m40 rfl rfl (Nat.le_of_ble_eq_true rfl) (Nat.le_of_ble_eq_true rfl) (Nat.le_of_ble_eq_true rfl) (xh0 sh_50 (by decide)) rfl rfl (hr_askHead d (by omega) s30 v31 (v12 - 64)) (fun s32 v33 => ?_)
      exact vRi i58_422 m58 rfl
    · refine vLan 396 i58_395 rfl rfl ?_
      refine vLin 397 i58_396 rfl rfl ?_
      refine vLi 399 i58_397 rfl rfl ?_
      refine vCallI 402 [.ref 50, vi v10, vi v12] [] [(0, .ref 50), (1, vi v10), (2, vi v12)] i58_399 rfl (xlk0 l58_34) (Or.inl rfl) m40 rfl rfl (Nat.le_of_ble_eq_true rfl) (Nat.le_of_ble_eq_true rfl) (Nat.le_of_ble_eq_true rfl) (xh0 sh_50 (by decide)) rfl rfl (hr_askHead d (by omega) s9 v10 v12) (fun s34 v35 => ?_)
      refine vGo 422 i58_402 rfl ?_
      exact vRi i58_422 m58 rfl
  refine vSw 347 (v := 9) rfl i58_45 rfl rfl ?_ (fun h9 => ?_)
  · refine vLan 348 i58_347 rfl rfl ?_
    refine vLin 349 i58_348 rfl rfl ?_
    refine vLin 350 i58_349 rfl rfl ?_
    refine vLi 352 i58_350 rfl rfl ?_
    refine vIadd 353 i58_352 rfl ?_
    refine vCallI 356 [.ref 50, vi v10, vi (a1 + v11)] [] [(0, .ref 50), (1, vi v10), (2, vi (a1 + v11))] i58_353 rfl (xlk0 l58_34) (Or.inl rfl) m40 rfl rfl (Nat.le_of_ble_eq_true rfl) (Nat.le_of_ble_eq_true rfl) (Nat.le_of_ble_eq_true rfl) (xh0 sh_50 (by decide)) rfl rfl (hr_askHead d (by omega) s9 v10 (a1 + v11)) (fun s36 v37 => ?_)
    exact vRi i58_356 m58 rfl
  refine vSw 272 (v := 10) rfl i58_45 rfl rfl ?_ (fun h10 => ?_)
  · refine vLin 273 i58_272 rfl rfl ?_
    refine vZne 283 276 rfl i58_273 rfl rfl ?_ ?_
    · refine vLan 284 i58_283 rfl rfl ?_
      refine vLin 285 i58_284 rfl rfl ?_
      refine vLin 286 i58_285 rfl rfl ?_
      refine vK 287 i58_286 rfl ?_
      refine vIsub 288 i58_287 rfl ?_
      refine vCallI 291 [.ref 50, vi a0, vi (a1 - 1)] [] [(0, .ref 50), (1, vi a0), (2, vi (a1 - 1))] i58_288 rfl (xlk0 l58_34) (Or.inl rfl) m40 rfl rfl (Nat.le_of_ble_eq_true rfl) (Nat.le_of_ble_eq_true rfl) (Nat.le_of_ble_eq_true rfl) (xh0 sh_50 (by decide)) rfl rfl (hr_askHead d (by omega) s9 a0 (a1 - 1)) (fun s38 v39 => ?_)
      refine vSi0 293 [(6, vi v39), (5, vi v12), (4, vi v11), (3, vi v10), (0, .ref 50), (1, vi a0), (2, vi a1)] i58_291 m58 (by decide) rfl rfl ?_
      refine vLi 295 i58_293 rfl rfl ?_
      refine vK 296 i58_295 rfl ?_
      refine vCeq 302 299 rfl (show w32 1 = 1 from rfl) i58_296 rfl rfl ?_ ?_
      · refine vLan 303 i58_302 rfl rfl ?_
        refine vGetL 306 i58_303 f58_18 sh_50 rfl rfl ?_
        refine vSl 308 (fun v40 => [(7, vl v40), (6, vi v39), (5, vi v12), (4, vi v11), (3, vi v10), (0, .ref 50), (1, vi a0), (2, vi a1)]) i58_306 m58 (by decide) (fun v40 => (rfl : xst2 [(6, vi v39), (5, vi v12), (4, vi v11), (3, vi v10), (0, .ref 50), (1, vi a0), (2, vi a1)] 7 (vl v40) = [(7, vl v40), (6, vi v39), (5, vi v12), (4, vi v11), (3, vi v10), (0, .ref 50), (1, vi a0), (2, vi a1)])) rfl (fun v40 => ?_)
        refine vLan 309 i58_308 rfl rfl ?_
        refine vLin 310 i58_309 rfl rfl ?_
        refine vLin 311 i58_310 rfl rfl ?_
        refine vCallI 314 [.ref 50, vi v10, vi a1] [] [(0, .ref 50), (1, vi v10), (2, vi a1)] i58_311 rfl (xlk0 l58_34) (Or.inl rfl) m40 rfl rfl (Nat.le_of_ble_eq_true rfl) (Nat.le_of_ble_eq_true rfl) (Nat.le_of_ble_eq_true rfl) (xh0 sh_50 (by decide)) rfl rfl (hr_askHead d (by omega) s38 v10 a1) (fun s41 v42 => ?_)
        refine vSi0 316 [(6, vi v42), (7, vl v40), (5, vi v12), (4, vi v11), (3, vi v10), (0, .ref 50), (1, vi a0), (2, vi a1)] i58_314 m58 (by decide) rfl rfl ?_
        refine vLi 318 i58_316 rfl rfl ?_
        refine vK 319 i58_318 rfl ?_
        refine vCne 344 322 rfl (show w32 1 = 1 from rfl) i58_319 rfl rfl ?_ ?_
        · refine vLi 346 i58_344 rfl rfl ?_
          exact vRi i58_346 m58 rfl
        · refine vLan 323 i58_322 rfl rfl ?_
          refine vLan 324 i58_323 rfl rfl ?_
          refine vGetC 327 i58_324 f58_22 sh_50 rfl rfl ?_
          refine vGetC 330 i58_327 f58_108 sh_17 rfl rfl ?_
          refine vLin 331 i58_330 rfl rfl ?_
          refine vIal 332 rfl i58_331 sh_20 rfl ?_
          refine vLl 334 i58_332 rfl rfl ?_
          refine vLan 335 i58_334 rfl rfl ?_
          refine vGetL 338 i58_335 f58_18 sh_50 rfl rfl ?_
          refine vCallI 341 [.ref 50, vi (s41 20 (Int.toNat (w32 a0))), vl v40, vl (s41 50 4)] [] [(0, .ref 50), (1, vi (s41 20 (Int.toNat (w32 a0)))), (2, vl v40), (4, vl (s41 50 4))] i58_338 rfl (xlk0 l58_138) (Or.inl rfl) m45 rfl rfl (Nat.le_of_ble_eq_true rfl) (Nat.le_of_ble_eq_true rfl) (Nat.le_of_ble_eq_true rfl) (xh0 sh_50 (by decide)) rfl rfl (fun R1 => c_x4_combine N   (by omega) s41 (s41 20 (Int.toNat (w32 a0))) v40 (s41 50 4)) (fun s43 v44 => ?_)
          refine vGo 346 i58_341 rfl ?_
          exact vRi i58_346 m58 rfl
      · refine vLi 301 i58_299 rfl rfl ?_
        exact vRi i58_301 m58 rfl
    · refine vLan 277 i58_276 rfl rfl ?_
      refine vLin 278 i58_277 rfl rfl ?_
      refine vK 279 i58_278 rfl ?_
      refine vCallI 282 [.ref 50, vi v10, vi 0] [] [(0, .ref 50), (1, vi v10), (2, vi 0)] i58_279 rfl (xlk0 l58_34) (Or.inl rfl) m40 rfl rfl (Nat.le_of_ble_eq_true rfl) (Nat.le_of_ble_eq_true rfl) (Nat.le_of_ble_eq_true rfl) (xh0 sh_50 (by decide)) rfl rfl (hr_askHead d (by omega) s9 v10 0) (fun s45 v46 => ?_)
      exact vRi i58_282 m58 rfl
  refine vSw 380 (v := 11) rfl i58_45 rfl rfl ?_ (fun h11 => ?_)
  · refine vLan 381 i58_380 rfl rfl ?_
    refine vLin 382 i58_381 rfl rfl ?_
    refine vLi 384 i58_382 rfl rfl ?_
    refine vCallI 387 [.ref 50, vi v10, vi v12] [] [(0, .ref 50), (1, vi v10), (2, vi v12)] i58_384 rfl (xlk0 l58_34) (Or.inl rfl) m40 rfl rfl (Nat.le_of_ble_eq_true rfl) (Nat.le_of_ble_eq_true rfl) (Nat.le_of_ble_eq_true rfl) (xh0 sh_50 (by decide)) rfl rfl (hr_askHead d (by omega) s9 v10 v12) (fun s47 v48 => ?_)
    exact vRi i58_387 m58 rfl
  refine vSw 357 (v := 12) rfl i58_45 rfl rfl ?_ (fun h12 => ?_)
  · refine vLin 358 i58_357 rfl rfl ?_
    refine vZne 371 361 rfl i58_358 rfl rfl ?_ ?_
    · refine vLan 372 i58_371 rfl rfl ?_
      refine vLin 373 i58_372 rfl rfl ?_
      refine vLin 374 i58_373 rfl rfl ?_
      refine vK 375 i58_374 rfl ?_
      refine vIsub 376 i58_375 rfl ?_
      refine vCallI 379 [.ref 50, vi v10, vi (a1 - 1)] [] [(0, .ref 50), (1, vi v10), (2, vi (a1 - 1))] i58_376 rfl (xlk0 l58_34) (Or.inl rfl) m40 rfl rfl (Nat.le_of_ble_eq_true rfl) (Nat.le_of_ble_eq_true rfl) (Nat.le_of_ble_eq_true rfl) (xh0 sh_50 (by decide)) rfl rfl (hr_askHead d (by omega) s9 v10 (a1 - 1)) (fun s49 v50 => ?_)
      exact vRi i58_379 m58 rfl
    · refine vLan 362 i58_361 rfl rfl ?_
      refine vLi 364 i58_362 rfl rfl ?_
      refine vI2l 365 i58_364 rfl ?_
      refine vCallI 368 [.ref 50, vl (w32 v11)] [] [(0, .ref 50), (1, vl (w32 v11))] i58_365 rfl (xlk0 l58_131) (Or.inl rfl) m59 rfl rfl (Nat.le_of_ble_eq_true rfl) (Nat.le_of_ble_eq_true rfl) (Nat.le_of_ble_eq_true rfl) (xh0 sh_50 (by decide)) rfl rfl (fun R1 => c_x4_tellNumber N   (by omega) s9 (w32 v11)) (fun s51 v52 => ?_)
      refine vGo 379 i58_368 rfl ?_
      exact vRi i58_379 m58 rfl
  refine vSw 423 (v := 13) rfl i58_45 rfl rfl ?_ (fun h13 => ?_)
  · refine vKl 424 0 i58_423 (by decide) rfl ?_
    refine vSl0 426 [(7, vl 0), (5, vi v12), (4, vi v11), (3, vi v10), (0, .ref 50), (1, vi a0), (2, vi a1)] i58_424 m58 (by decide) rfl rfl ?_
    refine vK 427 i58_426 rfl ?_
    refine vSi0 429 [(9, vi 0), (7, vl 0), (5, vi v12), (4, vi v11), (3, vi v10), (0, .ref 50), (1, vi a0), (2, vi a1)] i58_427 m58 (by decide) rfl rfl ?_
    exact fun hD => tLc [(0, .ref 50), (2, vi a1), (3, vi v10), (4, vi v11), (7, vl 0), (9, vi 0)] (xNdk [0, 2, 3, 4, 7, 9] rfl (by decide)) (xNdk [9, 7, 5, 4, 3, 0, 1, 2] rfl (by decide)) ⟨rfl, rfl, rfl, rfl, rfl, rfl, trivial⟩ (c_x4_tellHead_429L N r_askPlace r_askHead t e hr_askPlace hr_askHead H hd  N s9 a1 v10 v11 0 0 hD)
  refine vSw 481 (v := 5) rfl i58_45 rfl rfl ?_ (fun h5 => ?_)
  · refine vLan 482 i58_481 rfl rfl ?_
    refine vLin 483 i58_482 rfl rfl ?_
    refine vLin 484 i58_483 rfl rfl ?_
    refine vCallI 487 [.ref 50, vi v10, vi a1] [] [(0, .ref 50), (1, vi v10), (2, vi a1)] i58_484 rfl (xlk0 l58_34) (Or.inl rfl) m40 rfl rfl (Nat.le_of_ble_eq_true rfl) (Nat.le_of_ble_eq_true rfl) (Nat.le_of_ble_eq_true rfl) (xh0 sh_50 (by decide)) rfl rfl (hr_askHead d (by omega) s9 v10 a1) (fun s53 v54 => ?_)
    exact vRi i58_487 m58 rfl
  refine vSw 481 (v := 8) rfl i58_45 rfl rfl ?_ (fun h8 => ?_)
  · refine vLan 482 i58_481 rfl rfl ?_
    refine vLin 483 i58_482 rfl rfl ?_
    refine vLin 484 i58_483 rfl rfl ?_
    refine vCallI 487 [.ref 50, vi v10, vi a1] [] [(0, .ref 50), (1, vi v10), (2, vi a1)] i58_484 rfl (xlk0 l58_34) (Or.inl rfl) m40 rfl rfl (Nat.le_of_ble_eq_true rfl) (Nat.le_of_ble_eq_true rfl) (Nat.le_of_ble_eq_true rfl) (xh0 sh_50 (by decide)) rfl rfl (hr_askHead d (by omega) s9 v10 a1) (fun s53 v54 => ?_)
    exact vRi i58_487 m58 rfl
  refine vSwD 481 i58_45 (by omega) rfl ?_
  refine vLan 482 i58_481 rfl rfl ?_
  refine vLin 483 i58_482 rfl rfl ?_
  refine vLin 484 i58_483 rfl rfl ?_
  refine vCallI 487 [.ref 50, vi v10, vi a1] [] [(0, .ref 50), (1, vi v10), (2, vi a1)] i58_484 rfl (xlk0 l58_34) (Or.inl rfl) m40 rfl rfl (Nat.le_of_ble_eq_true rfl) (Nat.le_of_ble_eq_true rfl) (Nat.le_of_ble_eq_true rfl) (xh0 sh_50 (by decide)) rfl rfl (hr_askHead d (by omega) s9 v10 a1) (fun s53 v54 => ?_)
  exact vRi i58_487 m58 rfl
theorem f53_18 : xFld xg 53 18 = some (3, 4) := by decide +kernel
theorem i53_3 : xIns xg 53 3 = some (.iload 5) := by decide +kernel
theorem i53_5 : xIns xg 53 5 = some (.iload_n 2) := by decide +kernel
theorem i53_6 : xIns xg 53 6 = some (.if_icmp .ge 52) := by decide +kernel
theorem i53_58 : xIns xg 53 58 = some (.iconst 1) := by decide +kernel
theorem i53_59 : xIns xg 53 59 = some (.ireturn) := by decide +kernel
theorem m53 : (xMet xg 53).2.2 = (7, (some .int)) := by decide +kernel
theorem i53_9 : xIns xg 53 9 = some (.aload_n 0) := by decide +kernel
theorem i53_10 : xIns xg 53 10 = some (.iload_n 1) := by decide +kernel
theorem i53_11 : xIns xg 53 11 = some (.iload 5) := by decide +kernel
theorem i53_13 : xIns xg 53 13 = some (.invokevirtual 34) := by decide +kernel
theorem i53_16 : xIns xg 53 16 = some (.istore 6) := by decide +kernel
theorem i53_18 : xIns xg 53 18 = some (.iload 6) := by decide +kernel
theorem i53_20 : xIns xg 53 20 = some (.iconst 1) := by decide +kernel
theorem i53_21 : xIns xg 53 21 = some (.if_icmp .eq 6) := by decide +kernel
theorem i53_27 : xIns xg 53 27 = some (.aload_n 0) := by decide +kernel
theorem i53_28 : xIns xg 53 28 = some (.getfield 18) := by decide +kernel
theorem i53_31 : xIns xg 53 31 = some (.lconst 0) := by decide +kernel
theorem i53_32 : xIns xg 53 32 = some (.lcmp) := by decide +kernel
theorem i53_33 : xIns xg 53 33 = some (.ifCond .ne 6) := by decide +kernel
theorem i53_39 : xIns xg 53 39 = some (.lload_n 3) := by decide +kernel
theorem i53_40 : xIns xg 53 40 = some (.aload_n 0) := by decide +kernel
theorem i53_41 : xIns xg 53 41 = some (.getfield 18) := by decide +kernel
theorem i53_44 : xIns xg 53 44 = some (.lrem) := by decide +kernel
theorem i53_45 : xIns xg 53 45 = some (.lconst 0) := by decide +kernel
theorem i53_46 : xIns xg 53 46 = some (.lcmp) := by decide +kernel
theorem i53_47 : xIns xg 53 47 = some (.ifCond .ne 5) := by decide +kernel
theorem i53_52 : xIns xg 53 52 = some (.iinc 5 1) := by decide +kernel
theorem i53_55 : xIns xg 53 55 = some (.goto (-52)) := by decide +kernel
theorem i53_50 : xIns xg 53 50 = some (.iconst 0) := by decide +kernel
theorem i53_51 : xIns xg 53 51 = some (.ireturn) := by decide +kernel
theorem i53_36 : xIns xg 53 36 = some (.bipush (-22)) := by decide +kernel
theorem i53_38 : xIns xg 53 38 = some (.ireturn) := by decide +kernel
theorem i53_24 : xIns xg 53 24 = some (.iload 6) := by decide +kernel
theorem i53_26 : xIns xg 53 26 = some (.ireturn) := by decide +kernel
theorem i53_0 : xIns xg 53 0 = some (.iconst 0) := by decide +kernel
theorem i53_1 : xIns xg 53 1 = some (.istore 5) := by decide +kernel
def d_x4_passesOwnHeads_3 (N : Nat) (r_askPlace : St → Int → Int → Option Rs) (r_askHead : St → Int → Int → Option Rs) (t : Nat)  (k3 : St → Int → Int → Int → Int → Option Rs) (s : St) (x1 : Int) (x2 : Int) (x3 : Int) (x5 : Int) : Option Rs :=
  (if (w32 x5) < (w32 x2) then bI (r_askHead s x1 x5) fun s1 v2 => (if (w32 v2) = 1 then (if (w64 (s1 50 4)) = 0 then some (s1, (-22)) else if (w64 (s1 50 4)) = 0 then none else (if (w64 (Int.tmod (w64 x3) (w64 (s1 50 4)))) = 0 then some (s1, 0) else bd (x5 + 1) fun v3 => k3 s1 x1 x2 x3 v3)) else some (s1, v2)) else some (s, 1))
def d_x4_passesOwnHeads_3L (N : Nat) (r_askPlace : St → Int → Int → Option Rs) (r_askHead : St → Int → Int → Option Rs) (t : Nat)  : Nat → St → Int → Int → Int → Int → Option Rs
  | 0 => fun _ _ _ _ _ => none
  | n + 1 => d_x4_passesOwnHeads_3 N r_askPlace r_askHead t  (d_x4_passesOwnHeads_3L N r_askPlace r_askHead t  n)
set_option maxHeartbeats 4000000 in
set_option maxRecDepth 100000 in
theorem c_x4_passesOwnHeads_3 {sc : xS} {d : Nat} {R : Rs} (N : Nat) (r_askPlace : St → Int → Int → Option Rs) (r_askHead : St → Int → Int → Option Rs) (t : Nat) (e : Nat) (hr_askPlace : ∀ d, e ≤ d → ∀ (s : St) (a0 a1 : Int) (R : Rs), r_askPlace s a0 a1 = some R → vT sc d 41 0 [(0, .ref 50), (1, vi a0), (2, vi a1)] [] s (fun r => r = qI R)) (hr_askHead : ∀ d, e ≤ d → ∀ (s : St) (a0 a1 : Int) (R : Rs), r_askHead s a0 a1 = some R → vT sc d 40 0 [(0, .ref 50), (1, vi a0), (2, vi a1)] [] s (fun r => r = qI R)) (H : isTold t) (hd : e + 1 ≤ d)   (k3 : St → Int → Int → Int → Int → Option Rs) (hk3 : ∀ (s : St) (x1 : Int) (x2 : Int) (x3 : Int) (x5 : Int), k3 s x1 x2 x3 x5 = some R → vT sc d 53 3 [(0, .ref 50), (1, vi x1), (2, vi x2), (3, vl x3), (5, vi x5)] [] s (fun r => r = qI R)) (s : St) (x1 : Int) (x2 : Int) (x3 : Int) (x5 : Int) : d_x4_passesOwnHeads_3 N r_askPlace r_askHead t  k3 s x1 x2 x3 x5 = some R → vT sc d 53 3 [(0, .ref 50), (1, vi x1), (2, vi x2), (3, vl x3), (5, vi x5)] [] s (fun r => r = qI R) := by
  obtain ⟨d, rfl⟩ : ∃ d', d = d' + 1 := ⟨d - 1, by omega⟩
  unfold d_x4_passesOwnHeads_3
  refine vLi 5 i53_3 rfl rfl ?_
  refine vLin 6 i53_5 rfl rfl ?_
  refine vCge 58 9 rfl rfl i53_6 rfl rfl ?_ ?_
  · refine vK 59 i53_58 rfl ?_
    exact vRi i53_59 m53 rfl
  · refine vLan 10 i53_9 rfl rfl ?_
    refine vLin 11 i53_10 rfl rfl ?_
    refine vLi 13 i53_11 rfl rfl ?_
    refine vCallI 16 [.ref 50, vi x1, vi x5] [] [(0, .ref 50), (1, vi x1), (2, vi x5)] i53_13 rfl (xlk0 l53_34) (Or.inl rfl) m40 rfl rfl (Nat.le_of_ble_eq_true rfl) (Nat.le_of_ble_eq_true rfl) (Nat.le_of_ble_eq_true rfl) (xh0 sh_50 (by decide)) rfl rfl (hr_askHead d (by omega) s x1 x5) (fun s1 v2 => ?_)
    refine vSi0 18 [(6, vi v2), (0, .ref 50), (1, vi x1), (2, vi x2), (3, vl x3), (5, vi x5)] i53_16 m53 (by decide) rfl rfl ?_
    refine vLi 20 i53_18 rfl rfl ?_
    refine vK 21 i53_20 rfl ?_
    refine vCeq 27 24 rfl (show w32 1 = 1 from rfl) i53_21 rfl rfl ?_ ?_
    · refine vLan 28 i53_27 rfl rfl ?_
      refine vGetL 31 i53_28 f53_18 sh_50 rfl rfl ?_
      refine vKl 32 0 i53_31 (by decide) rfl ?_
      refine vLcne 39 33 36 rfl (show w64 0 = 0 from rfl) i53_32 rfl i53_33 rfl rfl ?_ ?_
      · refine vLln 40 i53_39 rfl rfl ?_
        refine vLan 41 i53_40 rfl rfl ?_
        refine vGetL 44 i53_41 f53_18 sh_50 rfl rfl ?_
        refine vLrem 45 rfl rfl i53_44 rfl ?_
        refine vKl 46 0 i53_45 (by decide) rfl ?_
        refine vLcne 52 47 50 rfl (show w64 0 = 0 from rfl) i53_46 rfl i53_47 rfl rfl ?_ ?_
        · refine vInc 55 (fun v3 => [(5, vi v3), (6, vi v2), (0, .ref 50), (1, vi x1), (2, vi x2), (3, vl x3)]) i53_52 m53 (by decide) rfl (fun _ => rfl) rfl (fun v3 => ?_)
          refine vGo 3 i53_55 rfl ?_
          exact fun hD => tLc [(0, .ref 50), (1, vi x1), (2, vi x2), (3, vl x3), (5, vi v3)] (xNdk [0, 1, 2, 3, 5] rfl (by decide)) (xNdk [5, 6, 0, 1, 2, 3] rfl (by decide)) ⟨rfl, rfl, rfl, rfl, rfl, trivial⟩ (hk3 s1 x1 x2 x3 v3 hD)
        · refine vK 51 i53_50 rfl ?_
          exact vRi i53_51 m53 rfl
      · refine vKb 38 i53_36 (by decide) rfl ?_
        exact vRi i53_38 m53 rfl
    · refine vLi 26 i53_24 rfl rfl ?_
      exact vRi i53_26 m53 rfl
theorem c_x4_passesOwnHeads_3L {sc : xS} {d : Nat} {R : Rs} (N : Nat) (r_askPlace : St → Int → Int → Option Rs) (r_askHead : St → Int → Int → Option Rs) (t : Nat) (e : Nat) (hr_askPlace : ∀ d, e ≤ d → ∀ (s : St) (a0 a1 : Int) (R : Rs), r_askPlace s a0 a1 = some R → vT sc d 41 0 [(0, .ref 50), (1, vi a0), (2, vi a1)] [] s (fun r => r = qI R)) (hr_askHead : ∀ d, e ≤ d → ∀ (s : St) (a0 a1 : Int) (R : Rs), r_askHead s a0 a1 = some R → vT sc d 40 0 [(0, .ref 50), (1, vi a0), (2, vi a1)] [] s (fun r => r = qI R)) (H : isTold t) (hd : e + 1 ≤ d)   : ∀ (n : Nat) (s : St) (x1 : Int) (x2 : Int) (x3 : Int) (x5 : Int), d_x4_passesOwnHeads_3L N r_askPlace r_askHead t  n s x1 x2 x3 x5 = some R → vT sc d 53 3 [(0, .ref 50), (1, vi x1), (2, vi x2), (3, vl x3), (5, vi x5)] [] s (fun r => r = qI R) := by
  intro n
  induction n with
  | zero => intro s x1 x2 x3 x5 hD; cases hD
  | succ n ih => intro s x1 x2 x3 x5 hD; exact c_x4_passesOwnHeads_3 N r_askPlace r_askHead t e hr_askPlace hr_askHead H hd  _ ih s x1 x2 x3 x5 hD
def d_x4_passesOwnHeads (N : Nat) (r_askPlace : St → Int → Int → Option Rs) (r_askHead : St → Int → Int → Option Rs) (t : Nat)  (s : St) (a0 : Int) (a1 : Int) (a2 : Int) : Option Rs :=
  d_x4_passesOwnHeads_3L N r_askPlace r_askHead t  N s a0 a1 a2 0
set_option maxHeartbeats 4000000 in
set_option maxRecDepth 100000 in
theorem c_x4_passesOwnHeads {sc : xS} {d : Nat} {R : Rs} (N : Nat) (r_askPlace : St → Int → Int → Option Rs) (r_askHead : St → Int → Int → Option Rs) (t : Nat) (e : Nat) (hr_askPlace : ∀ d, e ≤ d → ∀ (s : St) (a0 a1 : Int) (R : Rs), r_askPlace s a0 a1 = some R → vT sc d 41 0 [(0, .ref 50), (1, vi a0), (2, vi a1)] [] s (fun r => r = qI R)) (hr_askHead : ∀ d, e ≤ d → ∀ (s : St) (a0 a1 : Int) (R : Rs), r_askHead s a0 a1 = some R → vT sc d 40 0 [(0, .ref 50), (1, vi a0), (2, vi a1)] [] s (fun r => r = qI R)) (H : isTold t) (hd : e + 1 ≤ d)   (s : St) (a0 : Int) (a1 : Int) (a2 : Int) : d_x4_passesOwnHeads N r_askPlace r_askHead t  s a0 a1 a2 = some R → vT sc d 53 0 [(0, .ref 50), (1, vi a0), (2, vi a1), (3, vl a2)] [] s (fun r => r = qI R) := by
  obtain ⟨d, rfl⟩ : ∃ d', d = d' + 1 := ⟨d - 1, by omega⟩
  unfold d_x4_passesOwnHeads
  refine vK 1 i53_0 rfl ?_
  refine vSi0 3 [(5, vi 0), (0, .ref 50), (1, vi a0), (2, vi a1), (3, vl a2)] i53_1 m53 (by decide) rfl rfl ?_
  exact fun hD => tLc [(0, .ref 50), (1, vi a0), (2, vi a1), (3, vl a2), (5, vi 0)] (xNdk [0, 1, 2, 3, 5] rfl (by decide)) (xNdk [5, 0, 1, 2, 3] rfl (by decide)) ⟨rfl, rfl, rfl, rfl, rfl, trivial⟩ (c_x4_passesOwnHeads_3L N r_askPlace r_askHead t e hr_askPlace hr_askHead H hd  N s a0 a1 a2 0 hD)
theorem i52_102 : xIns xg 52 102 = some (.iload 4) := by decide +kernel
theorem i52_104 : xIns xg 52 104 = some (.ifCond .eq 7) := by decide +kernel
theorem i52_111 : xIns xg 52 111 = some (.iconst 0) := by decide +kernel
theorem i52_112 : xIns xg 52 112 = some (.ireturn) := by decide +kernel
theorem m52 : (xMet xg 52).2.2 = (5, (some .int)) := by decide +kernel
theorem i52_107 : xIns xg 52 107 = some (.iconst 1) := by decide +kernel
theorem i52_108 : xIns xg 52 108 = some (.goto 4) := by decide +kernel
theorem i52_100 : xIns xg 52 100 = some (.istore 4) := by decide +kernel
theorem i52_74 : xIns xg 52 74 = some (.istore 4) := by decide +kernel
theorem i52_76 : xIns xg 52 76 = some (.goto 26) := by decide +kernel
theorem i52_57 : xIns xg 52 57 = some (.istore 4) := by decide +kernel
theorem i52_59 : xIns xg 52 59 = some (.goto 43) := by decide +kernel
theorem i52_40 : xIns xg 52 40 = some (.istore 4) := by decide +kernel
theorem i52_42 : xIns xg 52 42 = some (.goto 60) := by decide +kernel
theorem i52_0 : xIns xg 52 0 = some (.iload_n 0) := by decide +kernel
theorem i52_1 : xIns xg 52 1 = some (.tableswitch 78 60 62 #[27, 61, 44]) := by decide +kernel
theorem i52_28 : xIns xg 52 28 = some (.lload_n 1) := by decide +kernel
theorem i52_29 : xIns xg 52 29 = some (.iload_n 3) := by decide +kernel
theorem i52_30 : xIns xg 52 30 = some (.i2l) := by decide +kernel
theorem i52_31 : xIns xg 52 31 = some (.lcmp) := by decide +kernel
theorem i52_32 : xIns xg 52 32 = some (.ifCond .ge 7) := by decide +kernel
theorem i52_39 : xIns xg 52 39 = some (.iconst 0) := by decide +kernel
theorem i52_35 : xIns xg 52 35 = some (.iconst 1) := by decide +kernel
theorem i52_36 : xIns xg 52 36 = some (.goto 4) := by decide +kernel
theorem i52_62 : xIns xg 52 62 = some (.lload_n 1) := by decide +kernel
theorem i52_63 : xIns xg 52 63 = some (.iload_n 3) := by decide +kernel
theorem i52_64 : xIns xg 52 64 = some (.i2l) := by decide +kernel
theorem i52_65 : xIns xg 52 65 = some (.lcmp) := by decide +kernel
theorem i52_66 : xIns xg 52 66 = some (.ifCond .ne 7) := by decide +kernel
theorem i52_73 : xIns xg 52 73 = some (.iconst 0) := by decide +kernel
theorem i52_69 : xIns xg 52 69 = some (.iconst 1) := by decide +kernel
theorem i52_70 : xIns xg 52 70 = some (.goto 4) := by decide +kernel
theorem i52_45 : xIns xg 52 45 = some (.lload_n 1) := by decide +kernel
theorem i52_46 : xIns xg 52 46 = some (.iload_n 3) := by decide +kernel
theorem i52_47 : xIns xg 52 47 = some (.i2l) := by decide +kernel
theorem i52_48 : xIns xg 52 48 = some (.lcmp) := by decide +kernel
theorem i52_49 : xIns xg 52 49 = some (.ifCond .le 7) := by decide +kernel
theorem i52_56 : xIns xg 52 56 = some (.iconst 0) := by decide +kernel
theorem i52_52 : xIns xg 52 52 = some (.iconst 1) := by decide +kernel
theorem i52_53 : xIns xg 52 53 = some (.goto 4) := by decide +kernel
theorem i52_79 : xIns xg 52 79 = some (.iload_n 3) := by decide +kernel
theorem i52_80 : xIns xg 52 80 = some (.ifCond .ne 6) := by decide +kernel
theorem i52_86 : xIns xg 52 86 = some (.lload_n 1) := by decide +kernel
theorem i52_87 : xIns xg 52 87 = some (.iload_n 3) := by decide +kernel
theorem i52_88 : xIns xg 52 88 = some (.i2l) := by decide +kernel
theorem i52_89 : xIns xg 52 89 = some (.lrem) := by decide +kernel
theorem i52_90 : xIns xg 52 90 = some (.lconst 0) := by decide +kernel
theorem i52_91 : xIns xg 52 91 = some (.lcmp) := by decide +kernel
theorem i52_92 : xIns xg 52 92 = some (.ifCond .ne 7) := by decide +kernel
theorem i52_99 : xIns xg 52 99 = some (.iconst 0) := by decide +kernel
theorem i52_95 : xIns xg 52 95 = some (.iconst 1) := by decide +kernel
theorem i52_96 : xIns xg 52 96 = some (.goto 4) := by decide +kernel
theorem i52_83 : xIns xg 52 83 = some (.bipush (-22)) := by decide +kernel
theorem i52_85 : xIns xg 52 85 = some (.ireturn) := by decide +kernel
def d_x4_passes_102 (N : Nat)  (s : St) (x4 : Int) : Option Rs :=
  (if (w32 x4) = 0 then some (s, 0) else some (s, 1))
set_option maxHeartbeats 4000000 in
set_option maxRecDepth 100000 in
theorem c_x4_passes_102 {sc : xS} {d : Nat} {R : Rs} (N : Nat)  (hd : 0 ≤ d)   (s : St) (x4 : Int) : d_x4_passes_102 N  s x4 = some R → vT sc d 52 102 [(4, vi x4)] [] s (fun r => r = qI R) := by
  unfold d_x4_passes_102
  refine vLi 104 i52_102 rfl rfl ?_
  refine vZeq 111 107 rfl i52_104 rfl rfl ?_ ?_
  · refine vK 112 i52_111 rfl ?_
    exact vRi i52_112 m52 rfl
  · refine vK 108 i52_107 rfl ?_
    refine vGo 112 i52_108 rfl ?_
    exact vRi i52_112 m52 rfl
def d_x4_passes_100 (N : Nat)  (s : St) (z0 : Int) : Option Rs :=
  d_x4_passes_102 N  s z0
set_option maxHeartbeats 4000000 in
set_option maxRecDepth 100000 in
theorem c_x4_passes_100 {sc : xS} {d : Nat} {R : Rs} (N : Nat)  (hd : 0 ≤ d)   (s : St) (z0 : Int) : d_x4_passes_100 N  s z0 = some R → vT sc d 52 100 [] [vi z0] s (fun r => r = qI R) := by
  unfold d_x4_passes_100
  refine vSi0 102 [(4, vi z0)] i52_100 m52 (by decide) rfl rfl ?_
  exact fun hD => c_x4_passes_102 N  hd  s z0 hD
def d_x4_passes_74 (N : Nat)  (s : St) (z0 : Int) : Option Rs :=
  d_x4_passes_102 N  s z0
set_option maxHeartbeats 4000000 in
set_option maxRecDepth 100000 in
theorem c_x4_passes_74 {sc : xS} {d : Nat} {R : Rs} (N : Nat)  (hd : 0 ≤ d)   (s : St) (z0 : Int) : d_x4_passes_74 N  s z0 = some R → vT sc d 52 74 [] [vi z0] s (fun r => r = qI R) := by
  unfold d_x4_passes_74
  refine vSi0 76 [(4, vi z0)] i52_74 m52 (by decide) rfl rfl ?_
  refine vGo 102 i52_76 rfl ?_
  exact fun hD => c_x4_passes_102 N  hd  s z0 hD
def d_x4_passes_57 (N : Nat)  (s : St) (z0 : Int) : Option Rs :=
  d_x4_passes_102 N  s z0
set_option maxHeartbeats 4000000 in
set_option maxRecDepth 100000 in
theorem c_x4_passes_57 {sc : xS} {d : Nat} {R : Rs} (N : Nat)  (hd : 0 ≤ d)   (s : St) (z0 : Int) : d_x4_passes_57 N  s z0 = some R → vT sc d 52 57 [] [vi z0] s (fun r => r = qI R) := by
  unfold d_x4_passes_57
  refine vSi0 59 [(4, vi z0)] i52_57 m52 (by decide) rfl rfl ?_
  refine vGo 102 i52_59 rfl ?_
  exact fun hD => c_x4_passes_102 N  hd  s z0 hD
def d_x4_passes_40 (N : Nat)  (s : St) (z0 : Int) : Option Rs :=
  d_x4_passes_102 N  s z0
set_option maxHeartbeats 4000000 in
set_option maxRecDepth 100000 in
theorem c_x4_passes_40 {sc : xS} {d : Nat} {R : Rs} (N : Nat)  (hd : 0 ≤ d)   (s : St) (z0 : Int) : d_x4_passes_40 N  s z0 = some R → vT sc d 52 40 [] [vi z0] s (fun r => r = qI R) := by
  unfold d_x4_passes_40
  refine vSi0 42 [(4, vi z0)] i52_40 m52 (by decide) rfl rfl ?_
  refine vGo 102 i52_42 rfl ?_
  exact fun hD => c_x4_passes_102 N  hd  s z0 hD
def d_x4_passes (N : Nat)  (s : St) (a0 : Int) (a1 : Int) (a2 : Int) : Option Rs :=
  (if (w32 a0) = 60 then (if (w64 a1) < (w32 a2) then d_x4_passes_40 N  s 1 else d_x4_passes_40 N  s 0) else (if (w32 a0) = 61 then (if (w64 a1) = (w32 a2) then d_x4_passes_74 N  s 1 else d_x4_passes_74 N  s 0) else (if (w32 a0) = 62 then (if (w32 a2) < (w64 a1) then d_x4_passes_57 N  s 1 else d_x4_passes_57 N  s 0) else (if (w32 a2) = 0 then some (s, (-22)) else if (w32 a2) = 0 then none else (if (w64 (Int.tmod (w64 a1) (w32 a2))) = 0 then d_x4_passes_100 N  s 1 else d_x4_passes_100 N  s 0)))))
set_option maxHeartbeats 4000000 in
set_option maxRecDepth 100000 in
theorem c_x4_passes {sc : xS} {d : Nat} {R : Rs} (N : Nat)  (hd : 0 ≤ d)   (s : St) (a0 : Int) (a1 : Int) (a2 : Int) : d_x4_passes N  s a0 a1 a2 = some R → vT sc d 52 0 [(0, vi a0), (1, vl a1), (3, vi a2)] [] s (fun r => r = qI R) := by
  unfold d_x4_passes
  refine vLin 1 i52_0 rfl rfl ?_
  refine vSw 28 (v := 60) rfl i52_1 rfl rfl ?_ (fun h60 => ?_)
  · refine vLln 29 i52_28 rfl rfl ?_
    refine vLin 30 i52_29 rfl rfl ?_
    refine vI2l 31 i52_30 rfl ?_
    refine vLcge 39 32 35 rfl (w64w32 _) i52_31 rfl i52_32 rfl rfl ?_ ?_
    · refine vK 40 i52_39 rfl ?_
      exact fun hD => tLc [] (xNdk [] rfl (by decide)) (xNdk [0, 1, 3] rfl (by decide)) trivial (c_x4_passes_40 N  hd  s 0 hD)
    · refine vK 36 i52_35 rfl ?_
      refine vGo 40 i52_36 rfl ?_
      exact fun hD => tLc [] (xNdk [] rfl (by decide)) (xNdk [0, 1, 3] rfl (by decide)) trivial (c_x4_passes_40 N  hd  s 1 hD)
  refine vSw 62 (v := 61) rfl i52_1 rfl rfl ?_ (fun h61 => ?_)
  · refine vLln 63 i52_62 rfl rfl ?_
    refine vLin 64 i52_63 rfl rfl ?_
    refine vI2l 65 i52_64 rfl ?_
    refine vLcne 73 66 69 rfl (w64w32 _) i52_65 rfl i52_66 rfl rfl ?_ ?_
    · refine vK 74 i52_73 rfl ?_
      exact fun hD => tLc [] (xNdk [] rfl (by decide)) (xNdk [0, 1, 3] rfl (by decide)) trivial (c_x4_passes_74 N  hd  s 0 hD)
    · refine vK 70 i52_69 rfl ?_
      refine vGo 74 i52_70 rfl ?_
      exact fun hD => tLc [] (xNdk [] rfl (by decide)) (xNdk [0, 1, 3] rfl (by decide)) trivial (c_x4_passes_74 N  hd  s 1 hD)
  refine vSw 45 (v := 62) rfl i52_1 rfl rfl ?_ (fun h62 => ?_)
  · refine vLln 46 i52_45 rfl rfl ?_
    refine vLin 47 i52_46 rfl rfl ?_
    refine vI2l 48 i52_47 rfl ?_
    refine vLcle 56 49 52 rfl (w64w32 _) i52_48 rfl i52_49 rfl rfl ?_ ?_
    · refine vK 57 i52_56 rfl ?_
      exact fun hD => tLc [] (xNdk [] rfl (by decide)) (xNdk [0, 1, 3] rfl (by decide)) trivial (c_x4_passes_57 N  hd  s 0 hD)
    · refine vK 53 i52_52 rfl ?_
      refine vGo 57 i52_53 rfl ?_
      exact fun hD => tLc [] (xNdk [] rfl (by decide)) (xNdk [0, 1, 3] rfl (by decide)) trivial (c_x4_passes_57 N  hd  s 1 hD)
  refine vSwD 79 i52_1 (by omega) rfl ?_
  refine vLin 80 i52_79 rfl rfl ?_
  refine vZne 86 83 rfl i52_80 rfl rfl ?_ ?_
  · refine vLln 87 i52_86 rfl rfl ?_
    refine vLin 88 i52_87 rfl rfl ?_
    refine vI2l 89 i52_88 rfl ?_
    refine vLrem 90 rfl (w64w32 _) i52_89 rfl ?_
    refine vKl 91 0 i52_90 (by decide) rfl ?_
    refine vLcne 99 92 95 rfl (show w64 0 = 0 from rfl) i52_91 rfl i52_92 rfl rfl ?_ ?_
    · refine vK 100 i52_99 rfl ?_
      exact fun hD => tLc [] (xNdk [] rfl (by decide)) (xNdk [0, 1, 3] rfl (by decide)) trivial (c_x4_passes_100 N  hd  s 0 hD)
    · refine vK 96 i52_95 rfl ?_
      refine vGo 100 i52_96 rfl ?_
      exact fun hD => tLc [] (xNdk [] rfl (by decide)) (xNdk [0, 1, 3] rfl (by decide)) trivial (c_x4_passes_100 N  hd  s 1 hD)
  · refine vKb 85 i52_83 (by decide) rfl ?_
    exact vRi i52_85 m52 rfl
theorem f60_22 : xFld xg 60 22 = some (3, 0) := by decide +kernel
theorem f60_94 : xFld xg 60 94 = some (4, 3) := by decide +kernel
theorem f60_69 : xFld xg 60 69 = some (4, 1) := by decide +kernel
theorem f60_108 : xFld xg 60 108 = some (4, 2) := by decide +kernel
theorem f60_18 : xFld xg 60 18 = some (3, 4) := by decide +kernel
theorem f60_102 : xFld xg 60 102 = some (4, 6) := by decide +kernel
theorem i60_230 : xIns xg 60 230 = some (.iload 5) := by decide +kernel
theorem i60_232 : xIns xg 60 232 = some (.iconst 1) := by decide +kernel
theorem i60_233 : xIns xg 60 233 = some (.if_icmp .ne 24) := by decide +kernel
theorem i60_257 : xIns xg 60 257 = some (.iload 5) := by decide +kernel
theorem i60_259 : xIns xg 60 259 = some (.ireturn) := by decide +kernel
theorem m60 : (xMet xg 60).2.2 = (6, (some .int)) := by decide +kernel
theorem i60_236 : xIns xg 60 236 = some (.aload_n 0) := by decide +kernel
theorem i60_237 : xIns xg 60 237 = some (.getfield 22) := by decide +kernel
theorem i60_240 : xIns xg 60 240 = some (.getfield 108) := by decide +kernel
theorem i60_243 : xIns xg 60 243 = some (.iload_n 1) := by decide +kernel
theorem i60_244 : xIns xg 60 244 = some (.iaload) := by decide +kernel
theorem i60_245 : xIns xg 60 245 = some (.aload_n 0) := by decide +kernel
theorem i60_246 : xIns xg 60 246 = some (.getfield 18) := by decide +kernel
theorem i60_249 : xIns xg 60 249 = some (.iload 4) := by decide +kernel
theorem i60_251 : xIns xg 60 251 = some (.invokestatic 111) := by decide +kernel
theorem i60_254 : xIns xg 60 254 = some (.goto 5) := by decide +kernel
theorem i60_0 : xIns xg 60 0 = some (.aload_n 0) := by decide +kernel
theorem i60_1 : xIns xg 60 1 = some (.getfield 22) := by decide +kernel
theorem i60_4 : xIns xg 60 4 = some (.iload_n 1) := by decide +kernel
theorem i60_5 : xIns xg 60 5 = some (.invokevirtual 99) := by decide +kernel
theorem i60_8 : xIns xg 60 8 = some (.istore_n 3) := by decide +kernel
theorem i60_9 : xIns xg 60 9 = some (.aload_n 0) := by decide +kernel
theorem i60_10 : xIns xg 60 10 = some (.getfield 22) := by decide +kernel
theorem i60_13 : xIns xg 60 13 = some (.getfield 94) := by decide +kernel
theorem i60_16 : xIns xg 60 16 = some (.iload_n 1) := by decide +kernel
theorem i60_17 : xIns xg 60 17 = some (.iaload) := by decide +kernel
theorem i60_18 : xIns xg 60 18 = some (.istore 4) := by decide +kernel
theorem i60_20 : xIns xg 60 20 = some (.aload_n 0) := by decide +kernel
theorem i60_21 : xIns xg 60 21 = some (.getfield 22) := by decide +kernel
theorem i60_24 : xIns xg 60 24 = some (.getfield 69) := by decide +kernel
theorem i60_27 : xIns xg 60 27 = some (.iload_n 1) := by decide +kernel
theorem i60_28 : xIns xg 60 28 = some (.iaload) := by decide +kernel
theorem i60_29 : xIns xg 60 29 = some (.tableswitch 231 1 13 #[67, 69, 231, 231, 179, 88, 231, 121, 138, 231, 231, 148, 165]) := by decide +kernel
theorem i60_96 : xIns xg 60 96 = some (.iconst 1) := by decide +kernel
theorem i60_97 : xIns xg 60 97 = some (.ireturn) := by decide +kernel
theorem i60_98 : xIns xg 60 98 = some (.iload_n 2) := by decide +kernel
theorem i60_99 : xIns xg 60 99 = some (.aload_n 0) := by decide +kernel
theorem i60_100 : xIns xg 60 100 = some (.getfield 22) := by decide +kernel
theorem i60_103 : xIns xg 60 103 = some (.getfield 102) := by decide +kernel
theorem i60_106 : xIns xg 60 106 = some (.iload_n 1) := by decide +kernel
theorem i60_107 : xIns xg 60 107 = some (.iaload) := by decide +kernel
theorem i60_108 : xIns xg 60 108 = some (.if_icmp .ge 7) := by decide +kernel
theorem i60_115 : xIns xg 60 115 = some (.iconst 0) := by decide +kernel
theorem i60_116 : xIns xg 60 116 = some (.ireturn) := by decide +kernel
theorem i60_111 : xIns xg 60 111 = some (.iconst 1) := by decide +kernel
theorem i60_112 : xIns xg 60 112 = some (.goto 4) := by decide +kernel
theorem i60_208 : xIns xg 60 208 = some (.aload_n 0) := by decide +kernel
theorem i60_209 : xIns xg 60 209 = some (.iload_n 3) := by decide +kernel
theorem i60_210 : xIns xg 60 210 = some (.iload_n 2) := by decide +kernel
theorem i60_211 : xIns xg 60 211 = some (.invokevirtual 30) := by decide +kernel
theorem m41 : (xMet xg 41).2.2 = (6, (some .int)) := by decide +kernel
theorem i60_214 : xIns xg 60 214 = some (.istore 5) := by decide +kernel
theorem i60_216 : xIns xg 60 216 = some (.iload 5) := by decide +kernel
theorem i60_218 : xIns xg 60 218 = some (.iconst 1) := by decide +kernel
theorem i60_219 : xIns xg 60 219 = some (.if_icmp .ne 11) := by decide +kernel
theorem i60_222 : xIns xg 60 222 = some (.aload_n 0) := by decide +kernel
theorem i60_223 : xIns xg 60 223 = some (.iload_n 3) := by decide +kernel
theorem i60_224 : xIns xg 60 224 = some (.iload_n 2) := by decide +kernel
theorem i60_225 : xIns xg 60 225 = some (.invokevirtual 34) := by decide +kernel
theorem i60_228 : xIns xg 60 228 = some (.istore 5) := by decide +kernel
theorem i60_117 : xIns xg 60 117 = some (.aload_n 0) := by decide +kernel
theorem i60_118 : xIns xg 60 118 = some (.iload_n 3) := by decide +kernel
theorem i60_119 : xIns xg 60 119 = some (.iload_n 2) := by decide +kernel
theorem i60_120 : xIns xg 60 120 = some (.invokevirtual 30) := by decide +kernel
theorem i60_123 : xIns xg 60 123 = some (.istore 5) := by decide +kernel
theorem i60_125 : xIns xg 60 125 = some (.iload 5) := by decide +kernel
theorem i60_127 : xIns xg 60 127 = some (.iconst 1) := by decide +kernel
theorem i60_128 : xIns xg 60 128 = some (.if_icmp .ne 19) := by decide +kernel
theorem i60_147 : xIns xg 60 147 = some (.iload 5) := by decide +kernel
theorem i60_149 : xIns xg 60 149 = some (.ireturn) := by decide +kernel
theorem i60_131 : xIns xg 60 131 = some (.aload_n 0) := by decide +kernel
theorem i60_132 : xIns xg 60 132 = some (.aload_n 0) := by decide +kernel
theorem i60_133 : xIns xg 60 133 = some (.getfield 22) := by decide +kernel
theorem i60_136 : xIns xg 60 136 = some (.iload_n 1) := by decide +kernel
theorem i60_137 : xIns xg 60 137 = some (.invokevirtual 105) := by decide +kernel
theorem i60_140 : xIns xg 60 140 = some (.iload_n 2) := by decide +kernel
theorem i60_141 : xIns xg 60 141 = some (.invokevirtual 30) := by decide +kernel
theorem i60_144 : xIns xg 60 144 = some (.goto 5) := by decide +kernel
theorem i60_150 : xIns xg 60 150 = some (.iload_n 2) := by decide +kernel
theorem i60_151 : xIns xg 60 151 = some (.iload 4) := by decide +kernel
theorem i60_153 : xIns xg 60 153 = some (.if_icmp .ge 12) := by decide +kernel
theorem i60_165 : xIns xg 60 165 = some (.iconst 0) := by decide +kernel
theorem i60_166 : xIns xg 60 166 = some (.ireturn) := by decide +kernel
theorem i60_156 : xIns xg 60 156 = some (.aload_n 0) := by decide +kernel
theorem i60_157 : xIns xg 60 157 = some (.iload_n 3) := by decide +kernel
theorem i60_158 : xIns xg 60 158 = some (.iload_n 2) := by decide +kernel
theorem i60_159 : xIns xg 60 159 = some (.invokevirtual 30) := by decide +kernel
theorem i60_162 : xIns xg 60 162 = some (.goto 4) := by decide +kernel
theorem i60_167 : xIns xg 60 167 = some (.aload_n 0) := by decide +kernel
theorem i60_168 : xIns xg 60 168 = some (.iload_n 3) := by decide +kernel
theorem i60_169 : xIns xg 60 169 = some (.iload_n 2) := by decide +kernel
theorem i60_170 : xIns xg 60 170 = some (.iload 4) := by decide +kernel
theorem i60_172 : xIns xg 60 172 = some (.iadd) := by decide +kernel
theorem i60_173 : xIns xg 60 173 = some (.invokevirtual 30) := by decide +kernel
theorem i60_176 : xIns xg 60 176 = some (.ireturn) := by decide +kernel
theorem i60_177 : xIns xg 60 177 = some (.iload_n 2) := by decide +kernel
theorem i60_178 : xIns xg 60 178 = some (.ifCond .ne 7) := by decide +kernel
theorem i60_185 : xIns xg 60 185 = some (.aload_n 0) := by decide +kernel
theorem i60_186 : xIns xg 60 186 = some (.iload_n 3) := by decide +kernel
theorem i60_187 : xIns xg 60 187 = some (.iload_n 2) := by decide +kernel
theorem i60_188 : xIns xg 60 188 = some (.iconst 1) := by decide +kernel
theorem i60_189 : xIns xg 60 189 = some (.isub) := by decide +kernel
theorem i60_190 : xIns xg 60 190 = some (.invokevirtual 30) := by decide +kernel
theorem i60_193 : xIns xg 60 193 = some (.ireturn) := by decide +kernel
theorem i60_181 : xIns xg 60 181 = some (.iconst 1) := by decide +kernel
theorem i60_182 : xIns xg 60 182 = some (.goto 11) := by decide +kernel
theorem i60_194 : xIns xg 60 194 = some (.aload_n 0) := by decide +kernel
theorem i60_195 : xIns xg 60 195 = some (.iload_n 3) := by decide +kernel
theorem i60_196 : xIns xg 60 196 = some (.iload 4) := by decide +kernel
theorem i60_198 : xIns xg 60 198 = some (.iload_n 2) := by decide +kernel
theorem i60_199 : xIns xg 60 199 = some (.iconst 1) := by decide +kernel
theorem i60_200 : xIns xg 60 200 = some (.iadd) := by decide +kernel
theorem i60_201 : xIns xg 60 201 = some (.imul) := by decide +kernel
theorem i60_202 : xIns xg 60 202 = some (.iconst 1) := by decide +kernel
theorem i60_203 : xIns xg 60 203 = some (.isub) := by decide +kernel
theorem i60_204 : xIns xg 60 204 = some (.invokevirtual 30) := by decide +kernel
theorem i60_207 : xIns xg 60 207 = some (.ireturn) := by decide +kernel
theorem i60_260 : xIns xg 60 260 = some (.aload_n 0) := by decide +kernel
theorem i60_261 : xIns xg 60 261 = some (.iload_n 3) := by decide +kernel
theorem i60_262 : xIns xg 60 262 = some (.iload_n 2) := by decide +kernel
theorem i60_263 : xIns xg 60 263 = some (.invokevirtual 30) := by decide +kernel
theorem i60_266 : xIns xg 60 266 = some (.ireturn) := by decide +kernel
def d_x4_tellPlace_230 (N : Nat) (r_askPlace : St → Int → Int → Option Rs) (r_askHead : St → Int → Int → Option Rs) (t : Nat)  (s : St) (x1 : Int) (x4 : Int) (x5 : Int) : Option Rs :=
  (if (w32 x5) = 1 then if 0 ≤ (w32 x1) ∧ (w32 x1) < ((192 : Nat) : Int) then bI (d_x4_passes N  s (s 20 (Int.toNat (w32 x1))) (s 50 4) x4) fun s1 v2 => some (s1, v2) else none else some (s, x5))
set_option maxHeartbeats 4000000 in
set_option maxRecDepth 100000 in
theorem c_x4_tellPlace_230 {sc : xS} {d : Nat} {R : Rs} (N : Nat) (r_askPlace : St → Int → Int → Option Rs) (r_askHead : St → Int → Int → Option Rs) (t : Nat) (e : Nat) (hr_askPlace : ∀ d, e ≤ d → ∀ (s : St) (a0 a1 : Int) (R : Rs), r_askPlace s a0 a1 = some R → vT sc d 41 0 [(0, .ref 50), (1, vi a0), (2, vi a1)] [] s (fun r => r = qI R)) (hr_askHead : ∀ d, e ≤ d → ∀ (s : St) (a0 a1 : Int) (R : Rs), r_askHead s a0 a1 = some R → vT sc d 40 0 [(0, .ref 50), (1, vi a0), (2, vi a1)] [] s (fun r => r = qI R)) (H : isTold t) (hd : e + 1 ≤ d)   (s : St) (x1 : Int) (x4 : Int) (x5 : Int) : d_x4_tellPlace_230 N r_askPlace r_askHead t  s x1 x4 x5 = some R → vT sc d 60 230 [(0, .ref 50), (1, vi x1), (4, vi x4), (5, vi x5)] [] s (fun r => r = qI R) := by
  obtain ⟨d, rfl⟩ : ∃ d', d = d' + 1 := ⟨d - 1, by omega⟩
  unfold d_x4_tellPlace_230
  refine vLi 232 i60_230 rfl rfl ?_
  refine vK 233 i60_232 rfl ?_
  refine vCne 257 236 rfl (show w32 1 = 1 from rfl) i60_233 rfl rfl ?_ ?_
  · refine vLi 259 i60_257 rfl rfl ?_
    exact vRi i60_259 m60 rfl
  · refine vLan 237 i60_236 rfl rfl ?_
    refine vGetC 240 i60_237 f60_22 sh_50 rfl rfl ?_
    refine vGetC 243 i60_240 f60_108 sh_17 rfl rfl ?_
    refine vLin 244 i60_243 rfl rfl ?_
    refine vIal 245 rfl i60_244 sh_20 rfl ?_
    refine vLan 246 i60_245 rfl rfl ?_
    refine vGetL 249 i60_246 f60_18 sh_50 rfl rfl ?_
    refine vLi 251 i60_249 rfl rfl ?_
    refine vCallI 254 [vi (s 20 (Int.toNat (w32 x1))), vl (s 50 4), vi x4] [] [(0, vi (s 20 (Int.toNat (w32 x1)))), (1, vl (s 50 4)), (3, vi x4)] i60_251 rfl (xlk1 l60_111) (Or.inr (Or.inl rfl)) m52 rfl rfl (Nat.le_of_ble_eq_true rfl) (Nat.le_of_ble_eq_true rfl) (Nat.le_of_ble_eq_true rfl) rfl rfl rfl (fun R1 => c_x4_passes N   (by omega) s (s 20 (Int.toNat (w32 x1))) (s 50 4) x4) (fun s1 v2 => ?_)
    refine vGo 259 i60_254 rfl ?_
    exact vRi i60_259 m60 rfl
def d_x4_tellPlace (N : Nat) (r_askPlace : St → Int → Int → Option Rs) (r_askHead : St → Int → Int → Option Rs) (t : Nat)  (s : St) (a0 : Int) (a1 : Int) : Option Rs :=
  bI (d_x5_firstRow N 17 8 s a0) fun s3 v4 => if 0 ≤ (w32 a0) ∧ (w32 a0) < ((192 : Nat) : Int) then bd (s3 21 (Int.toNat (w32 a0))) fun v5 => if 0 ≤ (w32 a0) ∧ (w32 a0) < ((192 : Nat) : Int) then (if (w32 (s3 19 (Int.toNat (w32 a0)))) = 1 then some (s3, 1) else (if (w32 (s3 19 (Int.toNat (w32 a0)))) = 2 then if 0 ≤ (w32 a0) ∧ (w32 a0) < ((192 : Nat) : Int) then (if (w32 a1) < (w32 (s3 24 (Int.toNat (w32 a0)))) then some (s3, 1) else some (s3, 0)) else none else (if (w32 (s3 19 (Int.toNat (w32 a0)))) = 5 then bI (r_askPlace s3 v4 a1) fun s6 v7 => (if (w32 v7) = 1 then bI (r_askHead s6 v4 a1) fun s8 v9 => d_x4_tellPlace_230 N r_askPlace r_askHead t  s8 a0 v5 v9 else d_x4_tellPlace_230 N r_askPlace r_askHead t  s6 a0 v5 v7) else (if (w32 (s3 19 (Int.toNat (w32 a0)))) = 6 then bI (r_askPlace s3 v4 a1) fun s10 v11 => (if (w32 v11) = 1 then bI (d_x5_secondRow N 17 8 s10 a0) fun s12 v13 => bI (r_askPlace s12 v13 a1) fun s14 v15 => some (s14, v15) else some (s10, v11)) else (if (w32 (s3 19 (Int.toNat (w32 a0)))) = 8 then (if (w32 a1) < (w32 v5) then bI (r_askPlace s3 v4 a1) fun s16 v17 => some (s16, v17) else some (s3, 0)) else (if (w32 (s3 19 (Int.toNat (w32 a0)))) = 9 then bI (r_askPlace s3 v4 (a1 + v5)) fun s18 v19 => some (s18, v19) else (if (w32 (s3 19 (Int.toNat (w32 a0)))) = 12 then (if (w32 a1) = 0 then some (s3, 1) else bI (r_askPlace s3 v4 (a1 - 1)) fun s20 v21 => some (s20, v21)) else (if (w32 (s3 19 (Int.toNat (w32 a0)))) = 13 then bI (r_askPlace s3 v4 ((v5 * (a1 + 1)) - 1)) fun s22 v23 => some (s22, v23) else (if (w32 (s3 19 (Int.toNat (w32 a0)))) = 3 then bI (r_askPlace s3 v4 a1) fun s24 v25 => some (s24, v25) else (if (w32 (s3 19 (Int.toNat (w32 a0)))) = 4 then bI (r_askPlace s3 v4 a1) fun s24 v25 => some (s24, v25) else (if (w32 (s3 19 (Int.toNat (w32 a0)))) = 7 then bI (r_askPlace s3 v4 a1) fun s24 v25 => some (s24, v25) else (if (w32 (s3 19 (Int.toNat (w32 a0)))) = 10 then bI (r_askPlace s3 v4 a1) fun s24 v25 => some (s24, v25) else (if (w32 (s3 19 (Int.toNat (w32 a0)))) = 11 then bI (r_askPlace s3 v4 a1) fun s24 v25 => some (s24, v25) else bI (r_askPlace s3 v4 a1) fun s24 v25 => some (s24, v25)))))))))))))) else none else none
set_option maxHeartbeats 4000000 in
set_option maxRecDepth 100000 in
theorem c_x4_tellPlace {sc : xS} {d : Nat} {R : Rs} (N : Nat) (r_askPlace : St → Int → Int → Option Rs) (r_askHead : St → Int → Int → Option Rs) (t : Nat) (e : Nat) (hr_askPlace : ∀ d, e ≤ d → ∀ (s : St) (a0 a1 : Int) (R : Rs), r_askPlace s a0 a1 = some R → vT sc d 41 0 [(0, .ref 50), (1, vi a0), (2, vi a1)] [] s (fun r => r = qI R)) (hr_askHead : ∀ d, e ≤ d → ∀ (s : St) (a0 a1 : Int) (R : Rs), r_askHead s a0 a1 = some R → vT sc d 40 0 [(0, .ref 50), (1, vi a0), (2, vi a1)] [] s (fun r => r = qI R)) (H : isTold t) (hd : e + 1 ≤ d)   (s : St) (a0 : Int) (a1 : Int) : d_x4_tellPlace N r_askPlace r_askHead t  s a0 a1 = some R → vT sc d 60 0 [(0, .ref 50), (1, vi a0), (2, vi a1)] [] s (fun r => r = qI R) := by
  obtain ⟨d, rfl⟩ : ∃ d', d = d' + 1 := ⟨d - 1, by omega⟩
  unfold d_x4_tellPlace
  refine vLan 1 i60_0 rfl rfl ?_
  refine vGetC 4 i60_1 f60_22 sh_50 rfl rfl ?_
  refine vLin 5 i60_4 rfl rfl ?_
  refine vCallI 8 [.ref 17, vi a0] [] [(0, .ref 17), (1, vi a0)] i60_5 rfl (xlk0 l60_99) (Or.inl rfl) m65 rfl rfl (Nat.le_of_ble_eq_true rfl) (Nat.le_of_ble_eq_true rfl) (Nat.le_of_ble_eq_true rfl) (xh0 sh_17 (by decide)) rfl rfl (fun R1 => c_x5_firstRow N 17 8 isTexts_17 (by omega) s a0) (fun s3 v4 => ?_)
  refine vSin0 9 [(3, vi v4), (0, .ref 50), (1, vi a0), (2, vi a1)] i60_8 m60 (by decide) rfl rfl ?_
  refine vLan 10 i60_9 rfl rfl ?_
  refine vGetC 13 i60_10 f60_22 sh_50 rfl rfl ?_
  refine vGetC 16 i60_13 f60_94 sh_17 rfl rfl ?_
  refine vLin 17 i60_16 rfl rfl ?_
  refine vIal 18 rfl i60_17 sh_21 rfl ?_
  refine vSi 20 (fun v5 => [(4, vi v5), (3, vi v4), (0, .ref 50), (1, vi a0), (2, vi a1)]) i60_18 m60 (by decide) (fun v5 => (rfl : xst1 [(3, vi v4), (0, .ref 50), (1, vi a0), (2, vi a1)] 4 (vi v5) = [(4, vi v5), (3, vi v4), (0, .ref 50), (1, vi a0), (2, vi a1)])) rfl (fun v5 => ?_)
  refine vLan 21 i60_20 rfl rfl ?_
  refine vGetC 24 i60_21 f60_22 sh_50 rfl rfl ?_
  refine vGetC 27 i60_24 f60_69 sh_17 rfl rfl ?_
  refine vLin 28 i60_27 rfl rfl ?_
  refine vIal 29 rfl i60_28 sh_19 rfl ?_
  refine vSw 96 (v := 1) rfl i60_29 rfl rfl ?_ (fun h1 => ?_)
  · refine vK 97 i60_96 rfl ?_
    exact vRi i60_97 m60 rfl
  refine vSw 98 (v := 2) rfl i60_29 rfl rfl ?_ (fun h2 => ?_)
  · refine vLin 99 i60_98 rfl rfl ?_
    refine vLan 100 i60_99 rfl rfl ?_
    refine vGetC 103 i60_100 f60_22 sh_50 rfl rfl ?_
    refine vGetC 106 i60_103 f60_102 sh_17 rfl rfl ?_
    refine vLin 107 i60_106 rfl rfl ?_
    refine vIal 108 rfl i60_107 sh_24 rfl ?_
    refine vCge 115 111 rfl rfl i60_108 rfl rfl ?_ ?_
    · refine vK 116 i60_115 rfl ?_
      exact vRi i60_116 m60 rfl
    · refine vK 112 i60_111 rfl ?_
      refine vGo 116 i60_112 rfl ?_
      exact vRi i60_116 m60 rfl
  refine vSw 208 (v := 5) rfl i60_29 rfl rfl ?_ (fun h5 => ?_)
  · refine vLan 209 i60_208 rfl rfl ?_
    refine vLin 210 i60_209 rfl rfl ?_
    refine vLin 211 i60_210 rfl rfl ?_
    refine vCallI 214 [.ref 50, vi v4, vi a1] [] [(0, .ref 50), (1, vi v4), (2, vi a1)] i60_211 rfl (xlk0 l60_30) (Or.inl rfl) m41 rfl rfl (Nat.le_of_ble_eq_true rfl) (Nat.le_of_ble_eq_true rfl) (Nat.le_of_ble_eq_true rfl) (xh0 sh_50 (by decide)) rfl rfl (hr_askPlace d (by omega) s3 v4 a1) (fun s6 v7 => ?_)
    refine vSi0 216 [(5, vi v7), (4, vi v5), (3, vi v4), (0, .ref 50), (1, vi a0), (2, vi a1)] i60_214 m60 (by decide) rfl rfl ?_
    refine vLi 218 i60_216 rfl rfl ?_
    refine vK 219 i60_218 rfl ?_
    refine vCne 230 222 rfl (show w32 1 = 1 from rfl) i60_219 rfl rfl ?_ ?_
    · exact fun hD => tLc [(0, .ref 50), (1, vi a0), (4, vi v5), (5, vi v7)] (xNdk [0, 1, 4, 5] rfl (by decide)) (xNdk [5, 4, 3, 0, 1, 2] rfl (by decide)) ⟨rfl, rfl, rfl, rfl, trivial⟩ (c_x4_tellPlace_230 N r_askPlace r_askHead t e hr_askPlace hr_askHead H hd  s6 a0 v5 v7 hD)
    · refine vLan 223 i60_222 rfl rfl ?_
      refine vLin 224 i60_223 rfl rfl ?_
      refine vLin 225 i60_224 rfl rfl ?_
      refine vCallI 228 [.ref 50, vi v4, vi a1] [] [(0, .ref 50), (1, vi v4), (2, vi a1)] i60_225 rfl (xlk0 l60_34) (Or.inl rfl) m40 rfl rfl (Nat.le_of_ble_eq_true rfl) (Nat.le_of_ble_eq_true rfl) (Nat.le_of_ble_eq_true rfl) (xh0 sh_50 (by decide)) rfl rfl (hr_askHead d (by omega) s6 v4 a1) (fun s8 v9 => ?_)
      refine vSi0 230 [(5, vi v9), (4, vi v5), (3, vi v4), (0, .ref 50), (1, vi a0), (2, vi a1)] i60_228 m60 (by decide) rfl rfl ?_
      exact fun hD => tLc [(0, .ref 50), (1, vi a0), (4, vi v5), (5, vi v9)] (xNdk [0, 1, 4, 5] rfl (by decide)) (xNdk [5, 4, 3, 0, 1, 2] rfl (by decide)) ⟨rfl, rfl, rfl, rfl, trivial⟩ (c_x4_tellPlace_230 N r_askPlace r_askHead t e hr_askPlace hr_askHead H hd  s8 a0 v5 v9 hD)
  refine vSw 117 (v := 6) rfl i60_29 rfl rfl ?_ (fun h6 => ?_)
  · refine vLan 118 i60_117 rfl rfl ?_
    refine vLin 119 i60_118 rfl rfl ?_
    refine vLin 120 i60_119 rfl rfl ?_
    refine vCallI 123 [.ref 50, vi v4, vi a1] [] [(0, .ref 50), (1, vi v4), (2, vi a1)] i60_120 rfl (xlk0 l60_30) (Or.inl rfl) m41 rfl rfl (Nat.le_of_ble_eq_true rfl) (Nat.le_of_ble_eq_true rfl) (Nat.le_of_ble_eq_true rfl) (xh0 sh_50 (by decide)) rfl rfl (hr_askPlace d (by omega) s3 v4 a1) (fun s10 v11 => ?_)
    refine vSi0 125 [(5, vi v11), (4, vi v5), (3, vi v4), (0, .ref 50), (1, vi a0), (2, vi a1)] i60_123 m60 (by decide) rfl rfl ?_
    refine vLi 127 i60_125 rfl rfl ?_
    refine vK 128 i60_127 rfl ?_
    refine vCne 147 131 rfl (show w32 1 = 1 from rfl) i60_128 rfl rfl ?_ ?_
    · refine vLi 149 i60_147 rfl rfl ?_
      exact vRi i60_149 m60 rfl
    · refine vLan 132 i60_131 rfl rfl ?_
      refine vLan 133 i60_132 rfl rfl ?_
      refine vGetC 136 i60_133 f60_22 sh_50 rfl rfl ?_
      refine vLin 137 i60_136 rfl rfl ?_
      refine vCallI 140 [.ref 17, vi a0] [.ref 50] [(0, .ref 17), (1, vi a0)] i60_137 rfl (xlk0 l60_105) (Or.inl rfl) m67 rfl rfl (Nat.le_of_ble_eq_true rfl) (Nat.le_of_ble_eq_true rfl) (Nat.le_of_ble_eq_true rfl) (xh0 sh_17 (by decide)) rfl rfl (fun R1 => c_x5_secondRow N 17 8 isTexts_17 (by omega) s10 a0) (fun s12 v13 => ?_)
      refine vLin 141 i60_140 rfl rfl ?_
      refine vCallI 144 [.ref 50, vi v13, vi a1] [] [(0, .ref 50), (1, vi v13), (2, vi a1)] i60_141 rfl (xlk0 l60_30) (Or.inl rfl) m41 rfl rfl (Nat.le_of_ble_eq_true rfl) (Nat.le_of_ble_eq_true rfl) (Nat.le_of_ble_eq_true rfl) (xh0 sh_50 (by decide)) rfl rfl (hr_askPlace d (by omega) s12 v13 a1) (fun s14 v15 => ?_)
      refine vGo 149 i60_144 rfl ?_
      exact vRi i60_149 m60 rfl
  refine vSw 150 (v := 8) rfl i60_29 rfl rfl ?_ (fun h8 => ?_)
  · refine vLin 151 i60_150 rfl rfl ?_
    refine vLi 153 i60_151 rfl rfl ?_
    refine vCge 165 156 rfl rfl i60_153 rfl rfl ?_ ?_
    · refine vK 166 i60_165 rfl ?_
      exact vRi i60_166 m60 rfl
    · refine vLan 157 i60_156 rfl rfl ?_
      refine vLin 158 i60_157 rfl rfl ?_
      refine vLin 159 i60_158 rfl rfl ?_
      refine vCallI 162 [.ref 50, vi v4, vi a1] [] [(0, .ref 50), (1, vi v4), (2, vi a1)] i60_159 rfl (xlk0 l60_30) (Or.inl rfl) m41 rfl rfl (Nat.le_of_ble_eq_true rfl) (Nat.le_of_ble_eq_true rfl) (Nat.le_of_ble_eq_true rfl) (xh0 sh_50 (by decide)) rfl rfl (hr_askPlace d (by omega) s3 v4 a1) (fun s16 v17 => ?_)
      refine vGo 166 i60_162 rfl ?_
      exact vRi i60_166 m60 rfl
  refine vSw 167 (v := 9) rfl i60_29 rfl rfl ?_ (fun h9 => ?_)
  · refine vLan 168 i60_167 rfl rfl ?_
    refine vLin 169 i60_168 rfl rfl ?_
    refine vLin 170 i60_169 rfl rfl ?_
    refine vLi 172 i60_170 rfl rfl ?_
    refine vIadd 173 i60_172 rfl ?_
    refine vCallI 176 [.ref 50, vi v4, vi (a1 + v5)] [] [(0, .ref 50), (1, vi v4), (2, vi (a1 + v5))] i60_173 rfl (xlk0 l60_30) (Or.inl rfl) m41 rfl rfl (Nat.le_of_ble_eq_true rfl) (Nat.le_of_ble_eq_true rfl) (Nat.le_of_ble_eq_true rfl) (xh0 sh_50 (by decide)) rfl rfl (hr_askPlace d (by omega) s3 v4 (a1 + v5)) (fun s18 v19 => ?_)
    exact vRi i60_176 m60 rfl
  refine vSw 177 (v := 12) rfl i60_29 rfl rfl ?_ (fun h12 => ?_)
  · refine vLin 178 i60_177 rfl rfl ?_
    refine vZne 185 181 rfl i60_178 rfl rfl ?_ ?_
    · refine vLan 186 i60_185 rfl rfl ?_
      refine vLin 187 i60_186 rfl rfl ?_
      refine vLin 188 i60_187 rfl rfl ?_
      refine vK 189 i60_188 rfl ?_
      refine vIsub 190 i60_189 rfl ?_
      refine vCallI 193 [.ref 50, vi v4, vi (a1 - 1)] [] [(0, .ref 50), (1, vi v4), (2, vi (a1 - 1))] i60_190 rfl (xlk0 l60_30) (Or.inl rfl) m41 rfl rfl (Nat.le_of_ble_eq_true rfl) (Nat.le_of_ble_eq_true rfl) (Nat.le_of_ble_eq_true rfl) (xh0 sh_50 (by decide)) rfl rfl (hr_askPlace d (by omega) s3 v4 (a1 - 1)) (fun s20 v21 => ?_)
      exact vRi i60_193 m60 rfl
    · refine vK 182 i60_181 rfl ?_
      refine vGo 193 i60_182 rfl ?_
      exact vRi i60_193 m60 rfl
  refine vSw 194 (v := 13) rfl i60_29 rfl rfl ?_ (fun h13 => ?_)
  · refine vLan 195 i60_194 rfl rfl ?_
    refine vLin 196 i60_195 rfl rfl ?_
    refine vLi 198 i60_196 rfl rfl ?_
    refine vLin 199 i60_198 rfl rfl ?_
    refine vK 200 i60_199 rfl ?_
    refine vIadd 201 i60_200 rfl ?_
    refine vImul 202 i60_201 rfl ?_
    refine vK 203 i60_202 rfl ?_
    refine vIsub 204 i60_203 rfl ?_
    refine vCallI 207 [.ref 50, vi v4, vi ((v5 * (a1 + 1)) - 1)] [] [(0, .ref 50), (1, vi v4), (2, vi ((v5 * (a1 + 1)) - 1))] i60_204 rfl (xlk0 l60_30) (Or.inl rfl) m41 rfl rfl (Nat.le_of_ble_eq_true rfl) (Nat.le_of_ble_eq_true rfl) (Nat.le_of_ble_eq_true rfl) (xh0 sh_50 (by decide)) rfl rfl (hr_askPlace d (by omega) s3 v4 ((v5 * (a1 + 1)) - 1)) (fun s22 v23 => ?_)
    exact vRi i60_207 m60 rfl
  refine vSw 260 (v := 3) rfl i60_29 rfl rfl ?_ (fun h3 => ?_)
  · refine vLan 261 i60_260 rfl rfl ?_
    refine vLin 262 i60_261 rfl rfl ?_
    refine vLin 263 i60_262 rfl rfl ?_
    refine vCallI 266 [.ref 50, vi v4, vi a1] [] [(0, .ref 50), (1, vi v4), (2, vi a1)] i60_263 rfl (xlk0 l60_30) (Or.inl rfl) m41 rfl rfl (Nat.le_of_ble_eq_true rfl) (Nat.le_of_ble_eq_true rfl) (Nat.le_of_ble_eq_true rfl) (xh0 sh_50 (by decide)) rfl rfl (hr_askPlace d (by omega) s3 v4 a1) (fun s24 v25 => ?_)
    exact vRi i60_266 m60 rfl
  refine vSw 260 (v := 4) rfl i60_29 rfl rfl ?_ (fun h4 => ?_)
  · refine vLan 261 i60_260 rfl rfl ?_
    refine vLin 262 i60_261 rfl rfl ?_
    refine vLin 263 i60_262 rfl rfl ?_
    refine vCallI 266 [.ref 50, vi v4, vi a1] [] [(0, .ref 50), (1, vi v4), (2, vi a1)] i60_263 rfl (xlk0 l60_30) (Or.inl rfl) m41 rfl rfl (Nat.le_of_ble_eq_true rfl) (Nat.le_of_ble_eq_true rfl) (Nat.le_of_ble_eq_true rfl) (xh0 sh_50 (by decide)) rfl rfl (hr_askPlace d (by omega) s3 v4 a1) (fun s24 v25 => ?_)
    exact vRi i60_266 m60 rfl
  refine vSw 260 (v := 7) rfl i60_29 rfl rfl ?_ (fun h7 => ?_)
  · refine vLan 261 i60_260 rfl rfl ?_
    refine vLin 262 i60_261 rfl rfl ?_
    refine vLin 263 i60_262 rfl rfl ?_
    refine vCallI 266 [.ref 50, vi v4, vi a1] [] [(0, .ref 50), (1, vi v4), (2, vi a1)] i60_263 rfl (xlk0 l60_30) (Or.inl rfl) m41 rfl rfl (Nat.le_of_ble_eq_true rfl) (Nat.le_of_ble_eq_true rfl) (Nat.le_of_ble_eq_true rfl) (xh0 sh_50 (by decide)) rfl rfl (hr_askPlace d (by omega) s3 v4 a1) (fun s24 v25 => ?_)
    exact vRi i60_266 m60 rfl
  refine vSw 260 (v := 10) rfl i60_29 rfl rfl ?_ (fun h10 => ?_)
  · refine vLan 261 i60_260 rfl rfl ?_
    refine vLin 262 i60_261 rfl rfl ?_
    refine vLin 263 i60_262 rfl rfl ?_
    refine vCallI 266 [.ref 50, vi v4, vi a1] [] [(0, .ref 50), (1, vi v4), (2, vi a1)] i60_263 rfl (xlk0 l60_30) (Or.inl rfl) m41 rfl rfl (Nat.le_of_ble_eq_true rfl) (Nat.le_of_ble_eq_true rfl) (Nat.le_of_ble_eq_true rfl) (xh0 sh_50 (by decide)) rfl rfl (hr_askPlace d (by omega) s3 v4 a1) (fun s24 v25 => ?_)
    exact vRi i60_266 m60 rfl
  refine vSw 260 (v := 11) rfl i60_29 rfl rfl ?_ (fun h11 => ?_)
  · refine vLan 261 i60_260 rfl rfl ?_
    refine vLin 262 i60_261 rfl rfl ?_
    refine vLin 263 i60_262 rfl rfl ?_
    refine vCallI 266 [.ref 50, vi v4, vi a1] [] [(0, .ref 50), (1, vi v4), (2, vi a1)] i60_263 rfl (xlk0 l60_30) (Or.inl rfl) m41 rfl rfl (Nat.le_of_ble_eq_true rfl) (Nat.le_of_ble_eq_true rfl) (Nat.le_of_ble_eq_true rfl) (xh0 sh_50 (by decide)) rfl rfl (hr_askPlace d (by omega) s3 v4 a1) (fun s24 v25 => ?_)
    exact vRi i60_266 m60 rfl
  refine vSwD 260 i60_29 (by omega) rfl ?_
  refine vLan 261 i60_260 rfl rfl ?_
  refine vLin 262 i60_261 rfl rfl ?_
  refine vLin 263 i60_262 rfl rfl ?_
  refine vCallI 266 [.ref 50, vi v4, vi a1] [] [(0, .ref 50), (1, vi v4), (2, vi a1)] i60_263 rfl (xlk0 l60_30) (Or.inl rfl) m41 rfl rfl (Nat.le_of_ble_eq_true rfl) (Nat.le_of_ble_eq_true rfl) (Nat.le_of_ble_eq_true rfl) (xh0 sh_50 (by decide)) rfl rfl (hr_askPlace d (by omega) s3 v4 a1) (fun s24 v25 => ?_)
  exact vRi i60_266 m60 rfl
theorem f50_22 : xFld xg 50 22 = some (3, 0) := by decide +kernel
theorem f50_26 : xFld xg 50 26 = some (3, 1) := by decide +kernel
theorem f50_115 : xFld xg 50 115 = some (5, 4) := by decide +kernel
theorem f50_125 : xFld xg 50 125 = some (5, 5) := by decide +kernel
theorem f50_122 : xFld xg 50 122 = some (5, 8) := by decide +kernel
theorem f50_18 : xFld xg 50 18 = some (3, 4) := by decide +kernel
theorem i50_259 : xIns xg 50 259 = some (.iload 10) := by decide +kernel
theorem i50_261 : xIns xg 50 261 = some (.ifCond .eq 16) := by decide +kernel
theorem i50_277 : xIns xg 50 277 = some (.iconst 1) := by decide +kernel
theorem i50_278 : xIns xg 50 278 = some (.ireturn) := by decide +kernel
theorem m50 : (xMet xg 50).2.2 = (14, (some .int)) := by decide +kernel
theorem i50_264 : xIns xg 50 264 = some (.aload_n 0) := by decide +kernel
theorem i50_265 : xIns xg 50 265 = some (.getfield 26) := by decide +kernel
theorem i50_268 : xIns xg 50 268 = some (.getfield 125) := by decide +kernel
theorem i50_271 : xIns xg 50 271 = some (.iload_n 1) := by decide +kernel
theorem i50_272 : xIns xg 50 272 = some (.iload 6) := by decide +kernel
theorem i50_274 : xIns xg 50 274 = some (.iconst 1) := by decide +kernel
theorem i50_275 : xIns xg 50 275 = some (.iadd) := by decide +kernel
theorem i50_276 : xIns xg 50 276 = some (.iastore) := by decide +kernel
theorem i50_239 : xIns xg 50 239 = some (.i2b) := by decide +kernel
theorem i50_240 : xIns xg 50 240 = some (.bastore) := by decide +kernel
theorem i50_241 : xIns xg 50 241 = some (.iload 9) := by decide +kernel
theorem i50_243 : xIns xg 50 243 = some (.ifCond .eq 16) := by decide +kernel
theorem i50_246 : xIns xg 50 246 = some (.aload_n 0) := by decide +kernel
theorem i50_247 : xIns xg 50 247 = some (.getfield 26) := by decide +kernel
theorem i50_250 : xIns xg 50 250 = some (.getfield 115) := by decide +kernel
theorem i50_253 : xIns xg 50 253 = some (.iload_n 1) := by decide +kernel
theorem i50_254 : xIns xg 50 254 = some (.iload 5) := by decide +kernel
theorem i50_256 : xIns xg 50 256 = some (.iconst 1) := by decide +kernel
theorem i50_257 : xIns xg 50 257 = some (.iadd) := by decide +kernel
theorem i50_258 : xIns xg 50 258 = some (.iastore) := by decide +kernel
theorem i50_211 : xIns xg 50 211 = some (.aload_n 0) := by decide +kernel
theorem i50_212 : xIns xg 50 212 = some (.getfield 26) := by decide +kernel
theorem i50_215 : xIns xg 50 215 = some (.getfield 122) := by decide +kernel
theorem i50_218 : xIns xg 50 218 = some (.iload_n 1) := by decide +kernel
theorem i50_219 : xIns xg 50 219 = some (.bipush 64) := by decide +kernel
theorem i50_221 : xIns xg 50 221 = some (.imul) := by decide +kernel
theorem i50_222 : xIns xg 50 222 = some (.iload_n 2) := by decide +kernel
theorem i50_223 : xIns xg 50 223 = some (.iadd) := by decide +kernel
theorem i50_224 : xIns xg 50 224 = some (.iload 9) := by decide +kernel
theorem i50_226 : xIns xg 50 226 = some (.ifCond .eq 8) := by decide +kernel
theorem i50_234 : xIns xg 50 234 = some (.bipush 64) := by decide +kernel
theorem i50_236 : xIns xg 50 236 = some (.iload 6) := by decide +kernel
theorem i50_238 : xIns xg 50 238 = some (.iadd) := by decide +kernel
theorem i50_229 : xIns xg 50 229 = some (.iload 5) := by decide +kernel
theorem i50_231 : xIns xg 50 231 = some (.goto 8) := by decide +kernel
theorem i50_209 : xIns xg 50 209 = some (.istore 10) := by decide +kernel
theorem i50_192 : xIns xg 50 192 = some (.istore 9) := by decide +kernel
theorem i50_194 : xIns xg 50 194 = some (.aload_n 0) := by decide +kernel
theorem i50_195 : xIns xg 50 195 = some (.getfield 18) := by decide +kernel
theorem i50_198 : xIns xg 50 198 = some (.lload 12) := by decide +kernel
theorem i50_200 : xIns xg 50 200 = some (.lcmp) := by decide +kernel
theorem i50_201 : xIns xg 50 201 = some (.ifCond .gt 7) := by decide +kernel
theorem i50_208 : xIns xg 50 208 = some (.iconst 0) := by decide +kernel
theorem i50_204 : xIns xg 50 204 = some (.iconst 1) := by decide +kernel
theorem i50_205 : xIns xg 50 205 = some (.goto 4) := by decide +kernel
theorem i50_122 : xIns xg 50 122 = some (.istore 10) := by decide +kernel
theorem i50_124 : xIns xg 50 124 = some (.iload 9) := by decide +kernel
theorem i50_126 : xIns xg 50 126 = some (.ifCond .ne 85) := by decide +kernel
theorem i50_129 : xIns xg 50 129 = some (.iload 10) := by decide +kernel
theorem i50_131 : xIns xg 50 131 = some (.ifCond .ne 80) := by decide +kernel
theorem i50_134 : xIns xg 50 134 = some (.aload_n 0) := by decide +kernel
theorem i50_135 : xIns xg 50 135 = some (.iload_n 3) := by decide +kernel
theorem i50_136 : xIns xg 50 136 = some (.iload 5) := by decide +kernel
theorem i50_138 : xIns xg 50 138 = some (.invokevirtual 34) := by decide +kernel
theorem i50_141 : xIns xg 50 141 = some (.istore 11) := by decide +kernel
theorem i50_143 : xIns xg 50 143 = some (.iload 11) := by decide +kernel
theorem i50_145 : xIns xg 50 145 = some (.iconst 1) := by decide +kernel
theorem i50_146 : xIns xg 50 146 = some (.if_icmp .eq 6) := by decide +kernel
theorem i50_152 : xIns xg 50 152 = some (.aload_n 0) := by decide +kernel
theorem i50_153 : xIns xg 50 153 = some (.getfield 18) := by decide +kernel
theorem i50_156 : xIns xg 50 156 = some (.lstore 12) := by decide +kernel
theorem i50_158 : xIns xg 50 158 = some (.aload_n 0) := by decide +kernel
theorem i50_159 : xIns xg 50 159 = some (.iload 4) := by decide +kernel
theorem i50_161 : xIns xg 50 161 = some (.iload 6) := by decide +kernel
theorem i50_163 : xIns xg 50 163 = some (.invokevirtual 34) := by decide +kernel
theorem i50_166 : xIns xg 50 166 = some (.istore 11) := by decide +kernel
theorem i50_168 : xIns xg 50 168 = some (.iload 11) := by decide +kernel
theorem i50_170 : xIns xg 50 170 = some (.iconst 1) := by decide +kernel
theorem i50_171 : xIns xg 50 171 = some (.if_icmp .eq 6) := by decide +kernel
theorem i50_177 : xIns xg 50 177 = some (.lload 12) := by decide +kernel
theorem i50_179 : xIns xg 50 179 = some (.aload_n 0) := by decide +kernel
theorem i50_180 : xIns xg 50 180 = some (.getfield 18) := by decide +kernel
theorem i50_183 : xIns xg 50 183 = some (.lcmp) := by decide +kernel
theorem i50_184 : xIns xg 50 184 = some (.ifCond .gt 7) := by decide +kernel
theorem i50_191 : xIns xg 50 191 = some (.iconst 0) := by decide +kernel
theorem i50_187 : xIns xg 50 187 = some (.iconst 1) := by decide +kernel
theorem i50_188 : xIns xg 50 188 = some (.goto 4) := by decide +kernel
theorem i50_174 : xIns xg 50 174 = some (.iload 11) := by decide +kernel
theorem i50_176 : xIns xg 50 176 = some (.ireturn) := by decide +kernel
theorem i50_149 : xIns xg 50 149 = some (.iload 11) := by decide +kernel
theorem i50_151 : xIns xg 50 151 = some (.ireturn) := by decide +kernel
theorem i50_110 : xIns xg 50 110 = some (.istore 9) := by decide +kernel
theorem i50_112 : xIns xg 50 112 = some (.iload 7) := by decide +kernel
theorem i50_114 : xIns xg 50 114 = some (.ifCond .ne 7) := by decide +kernel
theorem i50_121 : xIns xg 50 121 = some (.iconst 0) := by decide +kernel
theorem i50_117 : xIns xg 50 117 = some (.iconst 1) := by decide +kernel
theorem i50_118 : xIns xg 50 118 = some (.goto 4) := by decide +kernel
theorem i50_100 : xIns xg 50 100 = some (.iload 8) := by decide +kernel
theorem i50_102 : xIns xg 50 102 = some (.ifCond .ne 7) := by decide +kernel
theorem i50_109 : xIns xg 50 109 = some (.iconst 0) := by decide +kernel
theorem i50_105 : xIns xg 50 105 = some (.iconst 1) := by decide +kernel
theorem i50_106 : xIns xg 50 106 = some (.goto 4) := by decide +kernel
theorem i50_88 : xIns xg 50 88 = some (.iload 7) := by decide +kernel
theorem i50_90 : xIns xg 50 90 = some (.ifCond .ne 10) := by decide +kernel
theorem i50_93 : xIns xg 50 93 = some (.iload 8) := by decide +kernel
theorem i50_95 : xIns xg 50 95 = some (.ifCond .ne 5) := by decide +kernel
theorem i50_98 : xIns xg 50 98 = some (.iconst 0) := by decide +kernel
theorem i50_99 : xIns xg 50 99 = some (.ireturn) := by decide +kernel
theorem i50_64 : xIns xg 50 64 = some (.aload_n 0) := by decide +kernel
theorem i50_65 : xIns xg 50 65 = some (.iload 4) := by decide +kernel
theorem i50_67 : xIns xg 50 67 = some (.iload 6) := by decide +kernel
theorem i50_69 : xIns xg 50 69 = some (.invokevirtual 30) := by decide +kernel
theorem i50_72 : xIns xg 50 72 = some (.istore 8) := by decide +kernel
theorem i50_74 : xIns xg 50 74 = some (.iload 8) := by decide +kernel
theorem i50_76 : xIns xg 50 76 = some (.iconst 1) := by decide +kernel
theorem i50_77 : xIns xg 50 77 = some (.if_icmp .eq 11) := by decide +kernel
theorem i50_80 : xIns xg 50 80 = some (.iload 8) := by decide +kernel
theorem i50_82 : xIns xg 50 82 = some (.ifCond .eq 6) := by decide +kernel
theorem i50_85 : xIns xg 50 85 = some (.iload 8) := by decide +kernel
theorem i50_87 : xIns xg 50 87 = some (.ireturn) := by decide +kernel
theorem i50_0 : xIns xg 50 0 = some (.aload_n 0) := by decide +kernel
theorem i50_1 : xIns xg 50 1 = some (.getfield 22) := by decide +kernel
theorem i50_4 : xIns xg 50 4 = some (.iload_n 1) := by decide +kernel
theorem i50_5 : xIns xg 50 5 = some (.invokevirtual 99) := by decide +kernel
theorem i50_8 : xIns xg 50 8 = some (.istore_n 3) := by decide +kernel
theorem i50_9 : xIns xg 50 9 = some (.aload_n 0) := by decide +kernel
theorem i50_10 : xIns xg 50 10 = some (.getfield 22) := by decide +kernel
theorem i50_13 : xIns xg 50 13 = some (.iload_n 1) := by decide +kernel
theorem i50_14 : xIns xg 50 14 = some (.invokevirtual 105) := by decide +kernel
theorem i50_17 : xIns xg 50 17 = some (.istore 4) := by decide +kernel
theorem i50_19 : xIns xg 50 19 = some (.aload_n 0) := by decide +kernel
theorem i50_20 : xIns xg 50 20 = some (.getfield 26) := by decide +kernel
theorem i50_23 : xIns xg 50 23 = some (.getfield 115) := by decide +kernel
theorem i50_26 : xIns xg 50 26 = some (.iload_n 1) := by decide +kernel
theorem i50_27 : xIns xg 50 27 = some (.iaload) := by decide +kernel
theorem i50_28 : xIns xg 50 28 = some (.istore 5) := by decide +kernel
theorem i50_30 : xIns xg 50 30 = some (.aload_n 0) := by decide +kernel
theorem i50_31 : xIns xg 50 31 = some (.getfield 26) := by decide +kernel
theorem i50_34 : xIns xg 50 34 = some (.getfield 125) := by decide +kernel
theorem i50_37 : xIns xg 50 37 = some (.iload_n 1) := by decide +kernel
theorem i50_38 : xIns xg 50 38 = some (.iaload) := by decide +kernel
theorem i50_39 : xIns xg 50 39 = some (.istore 6) := by decide +kernel
theorem i50_41 : xIns xg 50 41 = some (.aload_n 0) := by decide +kernel
theorem i50_42 : xIns xg 50 42 = some (.iload_n 3) := by decide +kernel
theorem i50_43 : xIns xg 50 43 = some (.iload 5) := by decide +kernel
theorem i50_45 : xIns xg 50 45 = some (.invokevirtual 30) := by decide +kernel
theorem i50_48 : xIns xg 50 48 = some (.istore 7) := by decide +kernel
theorem i50_50 : xIns xg 50 50 = some (.iload 7) := by decide +kernel
theorem i50_52 : xIns xg 50 52 = some (.iconst 1) := by decide +kernel
theorem i50_53 : xIns xg 50 53 = some (.if_icmp .eq 11) := by decide +kernel
theorem i50_56 : xIns xg 50 56 = some (.iload 7) := by decide +kernel
theorem i50_58 : xIns xg 50 58 = some (.ifCond .eq 6) := by decide +kernel
theorem i50_61 : xIns xg 50 61 = some (.iload 7) := by decide +kernel
theorem i50_63 : xIns xg 50 63 = some (.ireturn) := by decide +kernel
def d_x4_mergePlace_259 (N : Nat) (r_askPlace : St → Int → Int → Option Rs) (r_askHead : St → Int → Int → Option Rs) (t : Nat)  (s : St) (x1 : Int) (x6 : Int) (x10 : Int) : Option Rs :=
  (if (w32 x10) = 0 then some (s, 1) else if s 50 1 = (t : Int) then if 0 ≤ (w32 x1) ∧ (w32 x1) < ((192 : Nat) : Int) then bd (up s (t + 6) (Int.toNat (w32 x1)) (x6 + 1)) fun s1 => some (s1, 1) else none else none)
set_option maxHeartbeats 4000000 in
set_option maxRecDepth 100000 in
theorem c_x4_mergePlace_259 {sc : xS} {d : Nat} {R : Rs} (N : Nat) (r_askPlace : St → Int → Int → Option Rs) (r_askHead : St → Int → Int → Option Rs) (t : Nat) (e : Nat) (hr_askPlace : ∀ d, e ≤ d → ∀ (s : St) (a0 a1 : Int) (R : Rs), r_askPlace s a0 a1 = some R → vT sc d 41 0 [(0, .ref 50), (1, vi a0), (2, vi a1)] [] s (fun r => r = qI R)) (hr_askHead : ∀ d, e ≤ d → ∀ (s : St) (a0 a1 : Int) (R : Rs), r_askHead s a0 a1 = some R → vT sc d 40 0 [(0, .ref 50), (1, vi a0), (2, vi a1)] [] s (fun r => r = qI R)) (H : isTold t) (hd : e + 1 ≤ d)   (s : St) (x1 : Int) (x6 : Int) (x10 : Int) : d_x4_mergePlace_259 N r_askPlace r_askHead t  s x1 x6 x10 = some R → vT sc d 50 259 [(0, .ref 50), (1, vi x1), (6, vi x6), (10, vi x10)] [] s (fun r => r = qI R) := by
  obtain ⟨d, rfl⟩ : ∃ d', d = d' + 1 := ⟨d - 1, by omega⟩
  unfold d_x4_mergePlace_259
  refine vLi 261 i50_259 rfl rfl ?_
  refine vZeq 277 264 rfl i50_261 rfl rfl ?_ ?_
  · refine vK 278 i50_277 rfl ?_
    exact vRi i50_278 m50 rfl
  · refine vLan 265 i50_264 rfl rfl ?_
    refine vGetR 268 i50_265 f50_26 sh_50 rfl rfl ?_
    refine vGetC 271 i50_268 f50_125 (told_0 H) rfl rfl ?_
    refine vLin 272 i50_271 rfl rfl ?_
    refine vLi 274 i50_272 rfl rfl ?_
    refine vK 275 i50_274 rfl ?_
    refine vIadd 276 i50_275 rfl ?_
    refine vIas 277 rfl i50_276 (told_6 H) rfl (fun s1 => ?_)
    refine vK 278 i50_277 rfl ?_
    exact vRi i50_278 m50 rfl
def d_x4_mergePlace_239 (N : Nat) (r_askPlace : St → Int → Int → Option Rs) (r_askHead : St → Int → Int → Option Rs) (t : Nat)  (s : St) (x1 : Int) (x5 : Int) (x6 : Int) (x9 : Int) (x10 : Int) (z0 : Int) (z1 : Int) : Option Rs :=
  if 0 ≤ (w32 z1) ∧ (w32 z1) < ((12288 : Nat) : Int) then bd (up s (t + 9) (Int.toNat (w32 z1)) (w8 (w8 z0))) fun s2 => (if (w32 x9) = 0 then d_x4_mergePlace_259 N r_askPlace r_askHead t  s2 x1 x6 x10 else if s2 50 1 = (t : Int) then if 0 ≤ (w32 x1) ∧ (w32 x1) < ((192 : Nat) : Int) then bd (up s2 (t + 5) (Int.toNat (w32 x1)) (x5 + 1)) fun s3 => d_x4_mergePlace_259 N r_askPlace r_askHead t  s3 x1 x6 x10 else none else none) else none
set_option maxHeartbeats 4000000 in
set_option maxRecDepth 100000 in
theorem c_x4_mergePlace_239 {sc : xS} {d : Nat} {R : Rs} (N : Nat) (r_askPlace : St → Int → Int → Option Rs) (r_askHead : St → Int → Int → Option Rs) (t : Nat) (e : Nat) (hr_askPlace : ∀ d, e ≤ d → ∀ (s : St) (a0 a1 : Int) (R : Rs), r_askPlace s a0 a1 = some R → vT sc d 41 0 [(0, .ref 50), (1, vi a0), (2, vi a1)] [] s (fun r => r = qI R)) (hr_askHead : ∀ d, e ≤ d → ∀ (s : St) (a0 a1 : Int) (R : Rs), r_askHead s a0 a1 = some R → vT sc d 40 0 [(0, .ref 50), (1, vi a0), (2, vi a1)] [] s (fun r => r = qI R)) (H : isTold t) (hd : e + 1 ≤ d)   (s : St) (x1 : Int) (x5 : Int) (x6 : Int) (x9 : Int) (x10 : Int) (z0 : Int) (z1 : Int) : d_x4_mergePlace_239 N r_askPlace r_askHead t  s x1 x5 x6 x9 x10 z0 z1 = some R → vT sc d 50 239 [(0, .ref 50), (1, vi x1), (5, vi x5), (6, vi x6), (9, vi x9), (10, vi x10)] [vi z0, vi z1, .ref (t + 9)] s (fun r => r = qI R) := by
  obtain ⟨d, rfl⟩ : ∃ d', d = d' + 1 := ⟨d - 1, by omega⟩
  unfold d_x4_mergePlace_239
  refine vI2b 240 i50_239 rfl ?_
  refine vBas 241 rfl i50_240 (told_9 H) rfl (fun s2 => ?_)
  refine vLi 243 i50_241 rfl rfl ?_
  refine vZeq 259 246 rfl i50_243 rfl rfl ?_ ?_
  · exact fun hD => tLc [(0, .ref 50), (1, vi x1), (6, vi x6), (10, vi x10)] (xNdk [0, 1, 6, 10] rfl (by decide)) (xNdk [0, 1, 5, 6, 9, 10] rfl (by decide)) ⟨rfl, rfl, rfl, rfl, trivial⟩ (c_x4_mergePlace_259 N r_askPlace r_askHead t e hr_askPlace hr_askHead H hd  s2 x1 x6 x10 hD)
  · refine vLan 247 i50_246 rfl rfl ?_
    refine vGetR 250 i50_247 f50_26 sh_50 rfl rfl ?_
    refine vGetC 253 i50_250 f50_115 (told_0 H) rfl rfl ?_
    refine vLin 254 i50_253 rfl rfl ?_
    refine vLi 256 i50_254 rfl rfl ?_
    refine vK 257 i50_256 rfl ?_
    refine vIadd 258 i50_257 rfl ?_
    refine vIas 259 rfl i50_258 (told_5 H) rfl (fun s3 => ?_)
    exact fun hD => tLc [(0, .ref 50), (1, vi x1), (6, vi x6), (10, vi x10)] (xNdk [0, 1, 6, 10] rfl (by decide)) (xNdk [0, 1, 5, 6, 9, 10] rfl (by decide)) ⟨rfl, rfl, rfl, rfl, trivial⟩ (c_x4_mergePlace_259 N r_askPlace r_askHead t e hr_askPlace hr_askHead H hd  s3 x1 x6 x10 hD)
def d_x4_mergePlace_211 (N : Nat) (r_askPlace : St → Int → Int → Option Rs) (r_askHead : St → Int → Int → Option Rs) (t : Nat)  (s : St) (x1 : Int) (x2 : Int) (x5 : Int) (x6 : Int) (x9 : Int) (x10 : Int) : Option Rs :=
  if s 50 1 = (t : Int) then (if (w32 x9) = 0 then d_x4_mergePlace_239 N r_askPlace r_askHead t  s x1 x5 x6 x9 x10 (64 + x6) ((x1 * 64) + x2) else d_x4_mergePlace_239 N r_askPlace r_askHead t  s x1 x5 x6 x9 x10 x5 ((x1 * 64) + x2)) else none
set_option maxHeartbeats 4000000 in
set_option maxRecDepth 100000 in
theorem c_x4_mergePlace_211 {sc : xS} {d : Nat} {R : Rs} (N : Nat) (r_askPlace : St → Int → Int → Option Rs) (r_askHead : St → Int → Int → Option Rs) (t : Nat) (e : Nat) (hr_askPlace : ∀ d, e ≤ d → ∀ (s : St) (a0 a1 : Int) (R : Rs), r_askPlace s a0 a1 = some R → vT sc d 41 0 [(0, .ref 50), (1, vi a0), (2, vi a1)] [] s (fun r => r = qI R)) (hr_askHead : ∀ d, e ≤ d → ∀ (s : St) (a0 a1 : Int) (R : Rs), r_askHead s a0 a1 = some R → vT sc d 40 0 [(0, .ref 50), (1, vi a0), (2, vi a1)] [] s (fun r => r = qI R)) (H : isTold t) (hd : e + 1 ≤ d)   (s : St) (x1 : Int) (x2 : Int) (x5 : Int) (x6 : Int) (x9 : Int) (x10 : Int) : d_x4_mergePlace_211 N r_askPlace r_askHead t  s x1 x2 x5 x6 x9 x10 = some R → vT sc d 50 211 [(0, .ref 50), (1, vi x1), (2, vi x2), (5, vi x5), (6, vi x6), (9, vi x9), (10, vi x10)] [] s (fun r => r = qI R) := by
  obtain ⟨d, rfl⟩ : ∃ d', d = d' + 1 := ⟨d - 1, by omega⟩
  unfold d_x4_mergePlace_211
  refine vLan 212 i50_211 rfl rfl ?_
  refine vGetR 215 i50_212 f50_26 sh_50 rfl rfl ?_
  refine vGetC 218 i50_215 f50_122 (told_0 H) rfl rfl ?_
  refine vLin 219 i50_218 rfl rfl ?_
  refine vKb 221 i50_219 (by decide) rfl ?_
  refine vImul 222 i50_221 rfl ?_
  refine vLin 223 i50_222 rfl rfl ?_
  refine vIadd 224 i50_223 rfl ?_
  refine vLi 226 i50_224 rfl rfl ?_
  refine vZeq 234 229 rfl i50_226 rfl rfl ?_ ?_
  · refine vKb 236 i50_234 (by decide) rfl ?_
    refine vLi 238 i50_236 rfl rfl ?_
    refine vIadd 239 i50_238 rfl ?_
    exact fun hD => tLc [(0, .ref 50), (1, vi x1), (5, vi x5), (6, vi x6), (9, vi x9), (10, vi x10)] (xNdk [0, 1, 5, 6, 9, 10] rfl (by decide)) (xNdk [0, 1, 2, 5, 6, 9, 10] rfl (by decide)) ⟨rfl, rfl, rfl, rfl, rfl, rfl, trivial⟩ (c_x4_mergePlace_239 N r_askPlace r_askHead t e hr_askPlace hr_askHead H hd  s x1 x5 x6 x9 x10 (64 + x6) ((x1 * 64) + x2) hD)
  · refine vLi 231 i50_229 rfl rfl ?_
    refine vGo 239 i50_231 rfl ?_
    exact fun hD => tLc [(0, .ref 50), (1, vi x1), (5, vi x5), (6, vi x6), (9, vi x9), (10, vi x10)] (xNdk [0, 1, 5, 6, 9, 10] rfl (by decide)) (xNdk [0, 1, 2, 5, 6, 9, 10] rfl (by decide)) ⟨rfl, rfl, rfl, rfl, rfl, rfl, trivial⟩ (c_x4_mergePlace_239 N r_askPlace r_askHead t e hr_askPlace hr_askHead H hd  s x1 x5 x6 x9 x10 x5 ((x1 * 64) + x2) hD)
def d_x4_mergePlace_209 (N : Nat) (r_askPlace : St → Int → Int → Option Rs) (r_askHead : St → Int → Int → Option Rs) (t : Nat)  (s : St) (x1 : Int) (x2 : Int) (x5 : Int) (x6 : Int) (x9 : Int) (z0 : Int) : Option Rs :=
  d_x4_mergePlace_211 N r_askPlace r_askHead t  s x1 x2 x5 x6 x9 z0
set_option maxHeartbeats 4000000 in
set_option maxRecDepth 100000 in
theorem c_x4_mergePlace_209 {sc : xS} {d : Nat} {R : Rs} (N : Nat) (r_askPlace : St → Int → Int → Option Rs) (r_askHead : St → Int → Int → Option Rs) (t : Nat) (e : Nat) (hr_askPlace : ∀ d, e ≤ d → ∀ (s : St) (a0 a1 : Int) (R : Rs), r_askPlace s a0 a1 = some R → vT sc d 41 0 [(0, .ref 50), (1, vi a0), (2, vi a1)] [] s (fun r => r = qI R)) (hr_askHead : ∀ d, e ≤ d → ∀ (s : St) (a0 a1 : Int) (R : Rs), r_askHead s a0 a1 = some R → vT sc d 40 0 [(0, .ref 50), (1, vi a0), (2, vi a1)] [] s (fun r => r = qI R)) (H : isTold t) (hd : e + 1 ≤ d)   (s : St) (x1 : Int) (x2 : Int) (x5 : Int) (x6 : Int) (x9 : Int) (z0 : Int) : d_x4_mergePlace_209 N r_askPlace r_askHead t  s x1 x2 x5 x6 x9 z0 = some R → vT sc d 50 209 [(0, .ref 50), (1, vi x1), (2, vi x2), (5, vi x5), (6, vi x6), (9, vi x9)] [vi z0] s (fun r => r = qI R) := by
  obtain ⟨d, rfl⟩ : ∃ d', d = d' + 1 := ⟨d - 1, by omega⟩
  unfold d_x4_mergePlace_209
  refine vSi0 211 [(10, vi z0), (0, .ref 50), (1, vi x1), (2, vi x2), (5, vi x5), (6, vi x6), (9, vi x9)] i50_209 m50 (by decide) rfl rfl ?_
  exact fun hD => tLc [(0, .ref 50), (1, vi x1), (2, vi x2), (5, vi x5), (6, vi x6), (9, vi x9), (10, vi z0)] (xNdk [0, 1, 2, 5, 6, 9, 10] rfl (by decide)) (xNdk [10, 0, 1, 2, 5, 6, 9] rfl (by decide)) ⟨rfl, rfl, rfl, rfl, rfl, rfl, rfl, trivial⟩ (c_x4_mergePlace_211 N r_askPlace r_askHead t e hr_askPlace hr_askHead H hd  s x1 x2 x5 x6 x9 z0 hD)
def d_x4_mergePlace_192 (N : Nat) (r_askPlace : St → Int → Int → Option Rs) (r_askHead : St → Int → Int → Option Rs) (t : Nat)  (s : St) (x1 : Int) (x2 : Int) (x5 : Int) (x6 : Int) (x12 : Int) (z0 : Int) : Option Rs :=
  (if (w64 x12) < (w64 (s 50 4)) then d_x4_mergePlace_209 N r_askPlace r_askHead t  s x1 x2 x5 x6 z0 0 else d_x4_mergePlace_209 N r_askPlace r_askHead t  s x1 x2 x5 x6 z0 1)
set_option maxHeartbeats 4000000 in
set_option maxRecDepth 100000 in
theorem c_x4_mergePlace_192 {sc : xS} {d : Nat} {R : Rs} (N : Nat) (r_askPlace : St → Int → Int → Option Rs) (r_askHead : St → Int → Int → Option Rs) (t : Nat) (e : Nat) (hr_askPlace : ∀ d, e ≤ d → ∀ (s : St) (a0 a1 : Int) (R : Rs), r_askPlace s a0 a1 = some R → vT sc d 41 0 [(0, .ref 50), (1, vi a0), (2, vi a1)] [] s (fun r => r = qI R)) (hr_askHead : ∀ d, e ≤ d → ∀ (s : St) (a0 a1 : Int) (R : Rs), r_askHead s a0 a1 = some R → vT sc d 40 0 [(0, .ref 50), (1, vi a0), (2, vi a1)] [] s (fun r => r = qI R)) (H : isTold t) (hd : e + 1 ≤ d)   (s : St) (x1 : Int) (x2 : Int) (x5 : Int) (x6 : Int) (x12 : Int) (z0 : Int) : d_x4_mergePlace_192 N r_askPlace r_askHead t  s x1 x2 x5 x6 x12 z0 = some R → vT sc d 50 192 [(0, .ref 50), (1, vi x1), (2, vi x2), (5, vi x5), (6, vi x6), (12, vl x12)] [vi z0] s (fun r => r = qI R) := by
  obtain ⟨d, rfl⟩ : ∃ d', d = d' + 1 := ⟨d - 1, by omega⟩
  unfold d_x4_mergePlace_192
  refine vSi0 194 [(9, vi z0), (0, .ref 50), (1, vi x1), (2, vi x2), (5, vi x5), (6, vi x6), (12, vl x12)] i50_192 m50 (by decide) rfl rfl ?_
  refine vLan 195 i50_194 rfl rfl ?_
  refine vGetL 198 i50_195 f50_18 sh_50 rfl rfl ?_
  refine vLl 200 i50_198 rfl rfl ?_
  refine vLcgt 208 201 204 rfl rfl i50_200 rfl i50_201 rfl rfl ?_ ?_
  · refine vK 209 i50_208 rfl ?_
    exact fun hD => tLc [(0, .ref 50), (1, vi x1), (2, vi x2), (5, vi x5), (6, vi x6), (9, vi z0)] (xNdk [0, 1, 2, 5, 6, 9] rfl (by decide)) (xNdk [9, 0, 1, 2, 5, 6, 12] rfl (by decide)) ⟨rfl, rfl, rfl, rfl, rfl, rfl, trivial⟩ (c_x4_mergePlace_209 N r_askPlace r_askHead t e hr_askPlace hr_askHead H hd  s x1 x2 x5 x6 z0 0 hD)
  · refine vK 205 i50_204 rfl ?_
    refine vGo 209 i50_205 rfl ?_
    exact fun hD => tLc [(0, .ref 50), (1, vi x1), (2, vi x2), (5, vi x5), (6, vi x6), (9, vi z0)] (xNdk [0, 1, 2, 5, 6, 9] rfl (by decide)) (xNdk [9, 0, 1, 2, 5, 6, 12] rfl (by decide)) ⟨rfl, rfl, rfl, rfl, rfl, rfl, trivial⟩ (c_x4_mergePlace_209 N r_askPlace r_askHead t e hr_askPlace hr_askHead H hd  s x1 x2 x5 x6 z0 1 hD)
def d_x4_mergePlace_122 (N : Nat) (r_askPlace : St → Int → Int → Option Rs) (r_askHead : St → Int → Int → Option Rs) (t : Nat)  (s : St) (x1 : Int) (x2 : Int) (x3 : Int) (x4 : Int) (x5 : Int) (x6 : Int) (x9 : Int) (z0 : Int) : Option Rs :=
  (if (w32 x9) = 0 then (if (w32 z0) = 0 then bI (r_askHead s x3 x5) fun s4 v5 => (if (w32 v5) = 1 then bd (s4 50 4) fun v6 => bI (r_askHead s4 x4 x6) fun s7 v8 => (if (w32 v8) = 1 then (if (w64 (s7 50 4)) < (w64 v6) then d_x4_mergePlace_192 N r_askPlace r_askHead t  s7 x1 x2 x5 x6 v6 0 else d_x4_mergePlace_192 N r_askPlace r_askHead t  s7 x1 x2 x5 x6 v6 1) else some (s7, v8)) else some (s4, v5)) else d_x4_mergePlace_211 N r_askPlace r_askHead t  s x1 x2 x5 x6 x9 z0) else d_x4_mergePlace_211 N r_askPlace r_askHead t  s x1 x2 x5 x6 x9 z0)
set_option maxHeartbeats 4000000 in
set_option maxRecDepth 100000 in
theorem c_x4_mergePlace_122 {sc : xS} {d : Nat} {R : Rs} (N : Nat) (r_askPlace : St → Int → Int → Option Rs) (r_askHead : St → Int → Int → Option Rs) (t : Nat) (e : Nat) (hr_askPlace : ∀ d, e ≤ d → ∀ (s : St) (a0 a1 : Int) (R : Rs), r_askPlace s a0 a1 = some R → vT sc d 41 0 [(0, .ref 50), (1, vi a0), (2, vi a1)] [] s (fun r => r = qI R)) (hr_askHead : ∀ d, e ≤ d → ∀ (s : St) (a0 a1 : Int) (R : Rs), r_askHead s a0 a1 = some R → vT sc d 40 0 [(0, .ref 50), (1, vi a0), (2, vi a1)] [] s (fun r => r = qI R)) (H : isTold t) (hd : e + 1 ≤ d)   (s : St) (x1 : Int) (x2 : Int) (x3 : Int) (x4 : Int) (x5 : Int) (x6 : Int) (x9 : Int) (z0 : Int) : d_x4_mergePlace_122 N r_askPlace r_askHead t  s x1 x2 x3 x4 x5 x6 x9 z0 = some R → vT sc d 50 122 [(0, .ref 50), (1, vi x1), (2, vi x2), (3, vi x3), (4, vi x4), (5, vi x5), (6, vi x6), (9, vi x9)] [vi z0] s (fun r => r = qI R) := by
  obtain ⟨d, rfl⟩ : ∃ d', d = d' + 1 := ⟨d - 1, by omega⟩
  unfold d_x4_mergePlace_122
  refine vSi0 124 [(10, vi z0), (0, .ref 50), (1, vi x1), (2, vi x2), (3, vi x3), (4, vi x4), (5, vi x5), (6, vi x6), (9, vi x9)] i50_122 m50 (by decide) rfl rfl ?_
  refine vLi 126 i50_124 rfl rfl ?_
  refine vZne 211 129 rfl i50_126 rfl rfl ?_ ?_
  · exact fun hD => tLc [(0, .ref 50), (1, vi x1), (2, vi x2), (5, vi x5), (6, vi x6), (9, vi x9), (10, vi z0)] (xNdk [0, 1, 2, 5, 6, 9, 10] rfl (by decide)) (xNdk [10, 0, 1, 2, 3, 4, 5, 6, 9] rfl (by decide)) ⟨rfl, rfl, rfl, rfl, rfl, rfl, rfl, trivial⟩ (c_x4_mergePlace_211 N r_askPlace r_askHead t e hr_askPlace hr_askHead H hd  s x1 x2 x5 x6 x9 z0 hD)
  · refine vLi 131 i50_129 rfl rfl ?_
    refine vZne 211 134 rfl i50_131 rfl rfl ?_ ?_
    · exact fun hD => tLc [(0, .ref 50), (1, vi x1), (2, vi x2), (5, vi x5), (6, vi x6), (9, vi x9), (10, vi z0)] (xNdk [0, 1, 2, 5, 6, 9, 10] rfl (by decide)) (xNdk [10, 0, 1, 2, 3, 4, 5, 6, 9] rfl (by decide)) ⟨rfl, rfl, rfl, rfl, rfl, rfl, rfl, trivial⟩ (c_x4_mergePlace_211 N r_askPlace r_askHead t e hr_askPlace hr_askHead H hd  s x1 x2 x5 x6 x9 z0 hD)
    · refine vLan 135 i50_134 rfl rfl ?_
      refine vLin 136 i50_135 rfl rfl ?_
      refine vLi 138 i50_136 rfl rfl ?_
      refine vCallI 141 [.ref 50, vi x3, vi x5] [] [(0, .ref 50), (1, vi x3), (2, vi x5)] i50_138 rfl (xlk0 l50_34) (Or.inl rfl) m40 rfl rfl (Nat.le_of_ble_eq_true rfl) (Nat.le_of_ble_eq_true rfl) (Nat.le_of_ble_eq_true rfl) (xh0 sh_50 (by decide)) rfl rfl (hr_askHead d (by omega) s x3 x5) (fun s4 v5 => ?_)
      refine vSi0 143 [(11, vi v5), (10, vi z0), (0, .ref 50), (1, vi x1), (2, vi x2), (3, vi x3), (4, vi x4), (5, vi x5), (6, vi x6), (9, vi x9)] i50_141 m50 (by decide) rfl rfl ?_
      refine vLi 145 i50_143 rfl rfl ?_
      refine vK 146 i50_145 rfl ?_
      refine vCeq 152 149 rfl (show w32 1 = 1 from rfl) i50_146 rfl rfl ?_ ?_
      · refine vLan 153 i50_152 rfl rfl ?_
        refine vGetL 156 i50_153 f50_18 sh_50 rfl rfl ?_
        refine vSl 158 (fun v6 => [(12, vl v6), (11, vi v5), (10, vi z0), (0, .ref 50), (1, vi x1), (2, vi x2), (3, vi x3), (4, vi x4), (5, vi x5), (6, vi x6), (9, vi x9)]) i50_156 m50 (by decide) (fun v6 => (rfl : xst2 [(11, vi v5), (10, vi z0), (0, .ref 50), (1, vi x1), (2, vi x2), (3, vi x3), (4, vi x4), (5, vi x5), (6, vi x6), (9, vi x9)] 12 (vl v6) = [(12, vl v6), (11, vi v5), (10, vi z0), (0, .ref 50), (1, vi x1), (2, vi x2), (3, vi x3), (4, vi x4), (5, vi x5), (6, vi x6), (9, vi x9)])) rfl (fun v6 => ?_)
        refine vLan 159 i50_158 rfl rfl ?_
        refine vLi 161 i50_159 rfl rfl ?_
        refine vLi 163 i50_161 rfl rfl ?_
        refine vCallI 166 [.ref 50, vi x4, vi x6] [] [(0, .ref 50), (1, vi x4), (2, vi x6)] i50_163 rfl (xlk0 l50_34) (Or.inl rfl) m40 rfl rfl (Nat.le_of_ble_eq_true rfl) (Nat.le_of_ble_eq_true rfl) (Nat.le_of_ble_eq_true rfl) (xh0 sh_50 (by decide)) rfl rfl (hr_askHead d (by omega) s4 x4 x6) (fun s7 v8 => ?_)
        refine vSi0 168 [(11, vi v8), (12, vl v6), (10, vi z0), (0, .ref 50), (1, vi x1), (2, vi x2), (3, vi x3), (4, vi x4), (5, vi x5), (6, vi x6), (9, vi x9)] i50_166 m50 (by decide) rfl rfl ?_
        refine vLi 170 i50_168 rfl rfl ?_
        refine vK 171 i50_170 rfl ?_
        refine vCeq 177 174 rfl (show w32 1 = 1 from rfl) i50_171 rfl rfl ?_ ?_
        · refine vLl 179 i50_177 rfl rfl ?_
          refine vLan 180 i50_179 rfl rfl ?_
          refine vGetL 183 i50_180 f50_18 sh_50 rfl rfl ?_
          refine vLcgt 191 184 187 rfl rfl i50_183 rfl i50_184 rfl rfl ?_ ?_
          · refine vK 192 i50_191 rfl ?_
            exact fun hD => tLc [(0, .ref 50), (1, vi x1), (2, vi x2), (5, vi x5), (6, vi x6), (12, vl v6)] (xNdk [0, 1, 2, 5, 6, 12] rfl (by decide)) (xNdk [11, 12, 10, 0, 1, 2, 3, 4, 5, 6, 9] rfl (by decide)) ⟨rfl, rfl, rfl, rfl, rfl, rfl, trivial⟩ (c_x4_mergePlace_192 N r_askPlace r_askHead t e hr_askPlace hr_askHead H hd  s7 x1 x2 x5 x6 v6 0 hD)
          · refine vK 188 i50_187 rfl ?_
            refine vGo 192 i50_188 rfl ?_
            exact fun hD => tLc [(0, .ref 50), (1, vi x1), (2, vi x2), (5, vi x5), (6, vi x6), (12, vl v6)] (xNdk [0, 1, 2, 5, 6, 12] rfl (by decide)) (xNdk [11, 12, 10, 0, 1, 2, 3, 4, 5, 6, 9] rfl (by decide)) ⟨rfl, rfl, rfl, rfl, rfl, rfl, trivial⟩ (c_x4_mergePlace_192 N r_askPlace r_askHead t e hr_askPlace hr_askHead H hd  s7 x1 x2 x5 x6 v6 1 hD)
        · refine vLi 176 i50_174 rfl rfl ?_
          exact vRi i50_176 m50 rfl
      · refine vLi 151 i50_149 rfl rfl ?_
        exact vRi i50_151 m50 rfl
def d_x4_mergePlace_110 (N : Nat) (r_askPlace : St → Int → Int → Option Rs) (r_askHead : St → Int → Int → Option Rs) (t : Nat)  (s : St) (x1 : Int) (x2 : Int) (x3 : Int) (x4 : Int) (x5 : Int) (x6 : Int) (x7 : Int) (z0 : Int) : Option Rs :=
  (if (w32 x7) = 0 then d_x4_mergePlace_122 N r_askPlace r_askHead t  s x1 x2 x3 x4 x5 x6 z0 1 else d_x4_mergePlace_122 N r_askPlace r_askHead t  s x1 x2 x3 x4 x5 x6 z0 0)
set_option maxHeartbeats 4000000 in
set_option maxRecDepth 100000 in
theorem c_x4_mergePlace_110 {sc : xS} {d : Nat} {R : Rs} (N : Nat) (r_askPlace : St → Int → Int → Option Rs) (r_askHead : St → Int → Int → Option Rs) (t : Nat) (e : Nat) (hr_askPlace : ∀ d, e ≤ d → ∀ (s : St) (a0 a1 : Int) (R : Rs), r_askPlace s a0 a1 = some R → vT sc d 41 0 [(0, .ref 50), (1, vi a0), (2, vi a1)] [] s (fun r => r = qI R)) (hr_askHead : ∀ d, e ≤ d → ∀ (s : St) (a0 a1 : Int) (R : Rs), r_askHead s a0 a1 = some R → vT sc d 40 0 [(0, .ref 50), (1, vi a0), (2, vi a1)] [] s (fun r => r = qI R)) (H : isTold t) (hd : e + 1 ≤ d)   (s : St) (x1 : Int) (x2 : Int) (x3 : Int) (x4 : Int) (x5 : Int) (x6 : Int) (x7 : Int) (z0 : Int) : d_x4_mergePlace_110 N r_askPlace r_askHead t  s x1 x2 x3 x4 x5 x6 x7 z0 = some R → vT sc d 50 110 [(0, .ref 50), (1, vi x1), (2, vi x2), (3, vi x3), (4, vi x4), (5, vi x5), (6, vi x6), (7, vi x7)] [vi z0] s (fun r => r = qI R) := by
  obtain ⟨d, rfl⟩ : ∃ d', d = d' + 1 := ⟨d - 1, by omega⟩
  unfold d_x4_mergePlace_110
  refine vSi0 112 [(9, vi z0), (0, .ref 50), (1, vi x1), (2, vi x2), (3, vi x3), (4, vi x4), (5, vi x5), (6, vi x6), (7, vi x7)] i50_110 m50 (by decide) rfl rfl ?_
  refine vLi 114 i50_112 rfl rfl ?_
  refine vZne 121 117 rfl i50_114 rfl rfl ?_ ?_
  · refine vK 122 i50_121 rfl ?_
    exact fun hD => tLc [(0, .ref 50), (1, vi x1), (2, vi x2), (3, vi x3), (4, vi x4), (5, vi x5), (6, vi x6), (9, vi z0)] (xNdk [0, 1, 2, 3, 4, 5, 6, 9] rfl (by decide)) (xNdk [9, 0, 1, 2, 3, 4, 5, 6, 7] rfl (by decide)) ⟨rfl, rfl, rfl, rfl, rfl, rfl, rfl, rfl, trivial⟩ (c_x4_mergePlace_122 N r_askPlace r_askHead t e hr_askPlace hr_askHead H hd  s x1 x2 x3 x4 x5 x6 z0 0 hD)
  · refine vK 118 i50_117 rfl ?_
    refine vGo 122 i50_118 rfl ?_
    exact fun hD => tLc [(0, .ref 50), (1, vi x1), (2, vi x2), (3, vi x3), (4, vi x4), (5, vi x5), (6, vi x6), (9, vi z0)] (xNdk [0, 1, 2, 3, 4, 5, 6, 9] rfl (by decide)) (xNdk [9, 0, 1, 2, 3, 4, 5, 6, 7] rfl (by decide)) ⟨rfl, rfl, rfl, rfl, rfl, rfl, rfl, rfl, trivial⟩ (c_x4_mergePlace_122 N r_askPlace r_askHead t e hr_askPlace hr_askHead H hd  s x1 x2 x3 x4 x5 x6 z0 1 hD)
def d_x4_mergePlace_100 (N : Nat) (r_askPlace : St → Int → Int → Option Rs) (r_askHead : St → Int → Int → Option Rs) (t : Nat)  (s : St) (x1 : Int) (x2 : Int) (x3 : Int) (x4 : Int) (x5 : Int) (x6 : Int) (x7 : Int) (x8 : Int) : Option Rs :=
  (if (w32 x8) = 0 then d_x4_mergePlace_110 N r_askPlace r_askHead t  s x1 x2 x3 x4 x5 x6 x7 1 else d_x4_mergePlace_110 N r_askPlace r_askHead t  s x1 x2 x3 x4 x5 x6 x7 0)
set_option maxHeartbeats 4000000 in
set_option maxRecDepth 100000 in
theorem c_x4_mergePlace_100 {sc : xS} {d : Nat} {R : Rs} (N : Nat) (r_askPlace : St → Int → Int → Option Rs) (r_askHead : St → Int → Int → Option Rs) (t : Nat) (e : Nat) (hr_askPlace : ∀ d, e ≤ d → ∀ (s : St) (a0 a1 : Int) (R : Rs), r_askPlace s a0 a1 = some R → vT sc d 41 0 [(0, .ref 50), (1, vi a0), (2, vi a1)] [] s (fun r => r = qI R)) (hr_askHead : ∀ d, e ≤ d → ∀ (s : St) (a0 a1 : Int) (R : Rs), r_askHead s a0 a1 = some R → vT sc d 40 0 [(0, .ref 50), (1, vi a0), (2, vi a1)] [] s (fun r => r = qI R)) (H : isTold t) (hd : e + 1 ≤ d)   (s : St) (x1 : Int) (x2 : Int) (x3 : Int) (x4 : Int) (x5 : Int) (x6 : Int) (x7 : Int) (x8 : Int) : d_x4_mergePlace_100 N r_askPlace r_askHead t  s x1 x2 x3 x4 x5 x6 x7 x8 = some R → vT sc d 50 100 [(0, .ref 50), (1, vi x1), (2, vi x2), (3, vi x3), (4, vi x4), (5, vi x5), (6, vi x6), (7, vi x7), (8, vi x8)] [] s (fun r => r = qI R) := by
  obtain ⟨d, rfl⟩ : ∃ d', d = d' + 1 := ⟨d - 1, by omega⟩
  unfold d_x4_mergePlace_100
  refine vLi 102 i50_100 rfl rfl ?_
  refine vZne 109 105 rfl i50_102 rfl rfl ?_ ?_
  · refine vK 110 i50_109 rfl ?_
    exact fun hD => tLc [(0, .ref 50), (1, vi x1), (2, vi x2), (3, vi x3), (4, vi x4), (5, vi x5), (6, vi x6), (7, vi x7)] (xNdk [0, 1, 2, 3, 4, 5, 6, 7] rfl (by decide)) (xNdk [0, 1, 2, 3, 4, 5, 6, 7, 8] rfl (by decide)) ⟨rfl, rfl, rfl, rfl, rfl, rfl, rfl, rfl, trivial⟩ (c_x4_mergePlace_110 N r_askPlace r_askHead t e hr_askPlace hr_askHead H hd  s x1 x2 x3 x4 x5 x6 x7 0 hD)
  · refine vK 106 i50_105 rfl ?_
    refine vGo 110 i50_106 rfl ?_
    exact fun hD => tLc [(0, .ref 50), (1, vi x1), (2, vi x2), (3, vi x3), (4, vi x4), (5, vi x5), (6, vi x6), (7, vi x7)] (xNdk [0, 1, 2, 3, 4, 5, 6, 7] rfl (by decide)) (xNdk [0, 1, 2, 3, 4, 5, 6, 7, 8] rfl (by decide)) ⟨rfl, rfl, rfl, rfl, rfl, rfl, rfl, rfl, trivial⟩ (c_x4_mergePlace_110 N r_askPlace r_askHead t e hr_askPlace hr_askHead H hd  s x1 x2 x3 x4 x5 x6 x7 1 hD)
def d_x4_mergePlace_88 (N : Nat) (r_askPlace : St → Int → Int → Option Rs) (r_askHead : St → Int → Int → Option Rs) (t : Nat)  (s : St) (x1 : Int) (x2 : Int) (x3 : Int) (x4 : Int) (x5 : Int) (x6 : Int) (x7 : Int) (x8 : Int) : Option Rs :=
  (if (w32 x7) = 0 then (if (w32 x8) = 0 then some (s, 0) else d_x4_mergePlace_100 N r_askPlace r_askHead t  s x1 x2 x3 x4 x5 x6 x7 x8) else d_x4_mergePlace_100 N r_askPlace r_askHead t  s x1 x2 x3 x4 x5 x6 x7 x8)
set_option maxHeartbeats 4000000 in
set_option maxRecDepth 100000 in
theorem c_x4_mergePlace_88 {sc : xS} {d : Nat} {R : Rs} (N : Nat) (r_askPlace : St → Int → Int → Option Rs) (r_askHead : St → Int → Int → Option Rs) (t : Nat) (e : Nat) (hr_askPlace : ∀ d, e ≤ d → ∀ (s : St) (a0 a1 : Int) (R : Rs), r_askPlace s a0 a1 = some R → vT sc d 41 0 [(0, .ref 50), (1, vi a0), (2, vi a1)] [] s (fun r => r = qI R)) (hr_askHead : ∀ d, e ≤ d → ∀ (s : St) (a0 a1 : Int) (R : Rs), r_askHead s a0 a1 = some R → vT sc d 40 0 [(0, .ref 50), (1, vi a0), (2, vi a1)] [] s (fun r => r = qI R)) (H : isTold t) (hd : e + 1 ≤ d)   (s : St) (x1 : Int) (x2 : Int) (x3 : Int) (x4 : Int) (x5 : Int) (x6 : Int) (x7 : Int) (x8 : Int) : d_x4_mergePlace_88 N r_askPlace r_askHead t  s x1 x2 x3 x4 x5 x6 x7 x8 = some R → vT sc d 50 88 [(0, .ref 50), (1, vi x1), (2, vi x2), (3, vi x3), (4, vi x4), (5, vi x5), (6, vi x6), (7, vi x7), (8, vi x8)] [] s (fun r => r = qI R) := by
  obtain ⟨d, rfl⟩ : ∃ d', d = d' + 1 := ⟨d - 1, by omega⟩
  unfold d_x4_mergePlace_88
  refine vLi 90 i50_88 rfl rfl ?_
  refine vZne 100 93 rfl i50_90 rfl rfl ?_ ?_
  · exact fun hD => c_x4_mergePlace_100 N r_askPlace r_askHead t e hr_askPlace hr_askHead H hd  s x1 x2 x3 x4 x5 x6 x7 x8 hD
  · refine vLi 95 i50_93 rfl rfl ?_
    refine vZne 100 98 rfl i50_95 rfl rfl ?_ ?_
    · exact fun hD => c_x4_mergePlace_100 N r_askPlace r_askHead t e hr_askPlace hr_askHead H hd  s x1 x2 x3 x4 x5 x6 x7 x8 hD
    · refine vK 99 i50_98 rfl ?_
      exact vRi i50_99 m50 rfl
def d_x4_mergePlace_64 (N : Nat) (r_askPlace : St → Int → Int → Option Rs) (r_askHead : St → Int → Int → Option Rs) (t : Nat)  (s : St) (x1 : Int) (x2 : Int) (x3 : Int) (x4 : Int) (x5 : Int) (x6 : Int) (x7 : Int) : Option Rs :=
  bI (r_askPlace s x4 x6) fun s9 v10 => (if (w32 v10) = 1 then d_x4_mergePlace_88 N r_askPlace r_askHead t  s9 x1 x2 x3 x4 x5 x6 x7 v10 else (if (w32 v10) = 0 then d_x4_mergePlace_88 N r_askPlace r_askHead t  s9 x1 x2 x3 x4 x5 x6 x7 v10 else some (s9, v10)))
set_option maxHeartbeats 4000000 in
set_option maxRecDepth 100000 in
theorem c_x4_mergePlace_64 {sc : xS} {d : Nat} {R : Rs} (N : Nat) (r_askPlace : St → Int → Int → Option Rs) (r_askHead : St → Int → Int → Option Rs) (t : Nat) (e : Nat) (hr_askPlace : ∀ d, e ≤ d → ∀ (s : St) (a0 a1 : Int) (R : Rs), r_askPlace s a0 a1 = some R → vT sc d 41 0 [(0, .ref 50), (1, vi a0), (2, vi a1)] [] s (fun r => r = qI R)) (hr_askHead : ∀ d, e ≤ d → ∀ (s : St) (a0 a1 : Int) (R : Rs), r_askHead s a0 a1 = some R → vT sc d 40 0 [(0, .ref 50), (1, vi a0), (2, vi a1)] [] s (fun r => r = qI R)) (H : isTold t) (hd : e + 1 ≤ d)   (s : St) (x1 : Int) (x2 : Int) (x3 : Int) (x4 : Int) (x5 : Int) (x6 : Int) (x7 : Int) : d_x4_mergePlace_64 N r_askPlace r_askHead t  s x1 x2 x3 x4 x5 x6 x7 = some R → vT sc d 50 64 [(0, .ref 50), (1, vi x1), (2, vi x2), (3, vi x3), (4, vi x4), (5, vi x5), (6, vi x6), (7, vi x7)] [] s (fun r => r = qI R) := by
  obtain ⟨d, rfl⟩ : ∃ d', d = d' + 1 := ⟨d - 1, by omega⟩
  unfold d_x4_mergePlace_64
  refine vLan 65 i50_64 rfl rfl ?_
  refine vLi 67 i50_65 rfl rfl ?_
  refine vLi 69 i50_67 rfl rfl ?_
  refine vCallI 72 [.ref 50, vi x4, vi x6] [] [(0, .ref 50), (1, vi x4), (2, vi x6)] i50_69 rfl (xlk0 l50_30) (Or.inl rfl) m41 rfl rfl (Nat.le_of_ble_eq_true rfl) (Nat.le_of_ble_eq_true rfl) (Nat.le_of_ble_eq_true rfl) (xh0 sh_50 (by decide)) rfl rfl (hr_askPlace d (by omega) s x4 x6) (fun s9 v10 => ?_)
  refine vSi0 74 [(8, vi v10), (0, .ref 50), (1, vi x1), (2, vi x2), (3, vi x3), (4, vi x4), (5, vi x5), (6, vi x6), (7, vi x7)] i50_72 m50 (by decide) rfl rfl ?_
  refine vLi 76 i50_74 rfl rfl ?_
  refine vK 77 i50_76 rfl ?_
  refine vCeq 88 80 rfl (show w32 1 = 1 from rfl) i50_77 rfl rfl ?_ ?_
  · exact fun hD => tLc [(0, .ref 50), (1, vi x1), (2, vi x2), (3, vi x3), (4, vi x4), (5, vi x5), (6, vi x6), (7, vi x7), (8, vi v10)] (xNdk [0, 1, 2, 3, 4, 5, 6, 7, 8] rfl (by decide)) (xNdk [8, 0, 1, 2, 3, 4, 5, 6, 7] rfl (by decide)) ⟨rfl, rfl, rfl, rfl, rfl, rfl, rfl, rfl, rfl, trivial⟩ (c_x4_mergePlace_88 N r_askPlace r_askHead t e hr_askPlace hr_askHead H hd  s9 x1 x2 x3 x4 x5 x6 x7 v10 hD)
  · refine vLi 82 i50_80 rfl rfl ?_
    refine vZeq 88 85 rfl i50_82 rfl rfl ?_ ?_
    · exact fun hD => tLc [(0, .ref 50), (1, vi x1), (2, vi x2), (3, vi x3), (4, vi x4), (5, vi x5), (6, vi x6), (7, vi x7), (8, vi v10)] (xNdk [0, 1, 2, 3, 4, 5, 6, 7, 8] rfl (by decide)) (xNdk [8, 0, 1, 2, 3, 4, 5, 6, 7] rfl (by decide)) ⟨rfl, rfl, rfl, rfl, rfl, rfl, rfl, rfl, rfl, trivial⟩ (c_x4_mergePlace_88 N r_askPlace r_askHead t e hr_askPlace hr_askHead H hd  s9 x1 x2 x3 x4 x5 x6 x7 v10 hD)
    · refine vLi 87 i50_85 rfl rfl ?_
      exact vRi i50_87 m50 rfl
def d_x4_mergePlace (N : Nat) (r_askPlace : St → Int → Int → Option Rs) (r_askHead : St → Int → Int → Option Rs) (t : Nat)  (s : St) (a0 : Int) (a1 : Int) : Option Rs :=
  bI (d_x5_firstRow N 17 8 s a0) fun s11 v12 => bI (d_x5_secondRow N 17 8 s11 a0) fun s13 v14 => if s13 50 1 = (t : Int) then if 0 ≤ (w32 a0) ∧ (w32 a0) < ((192 : Nat) : Int) then bd (s13 (t + 5) (Int.toNat (w32 a0))) fun v15 => if s13 50 1 = (t : Int) then if 0 ≤ (w32 a0) ∧ (w32 a0) < ((192 : Nat) : Int) then bd (s13 (t + 6) (Int.toNat (w32 a0))) fun v16 => bI (r_askPlace s13 v12 v15) fun s17 v18 => (if (w32 v18) = 1 then d_x4_mergePlace_64 N r_askPlace r_askHead t  s17 a0 a1 v12 v14 v15 v16 v18 else (if (w32 v18) = 0 then d_x4_mergePlace_64 N r_askPlace r_askHead t  s17 a0 a1 v12 v14 v15 v16 v18 else some (s17, v18))) else none else none else none else none
set_option maxHeartbeats 4000000 in
set_option maxRecDepth 100000 in
theorem c_x4_mergePlace {sc : xS} {d : Nat} {R : Rs} (N : Nat) (r_askPlace : St → Int → Int → Option Rs) (r_askHead : St → Int → Int → Option Rs) (t : Nat) (e : Nat) (hr_askPlace : ∀ d, e ≤ d → ∀ (s : St) (a0 a1 : Int) (R : Rs), r_askPlace s a0 a1 = some R → vT sc d 41 0 [(0, .ref 50), (1, vi a0), (2, vi a1)] [] s (fun r => r = qI R)) (hr_askHead : ∀ d, e ≤ d → ∀ (s : St) (a0 a1 : Int) (R : Rs), r_askHead s a0 a1 = some R → vT sc d 40 0 [(0, .ref 50), (1, vi a0), (2, vi a1)] [] s (fun r => r = qI R)) (H : isTold t) (hd : e + 1 ≤ d)   (s : St) (a0 : Int) (a1 : Int) : d_x4_mergePlace N r_askPlace r_askHead t  s a0 a1 = some R → vT sc d 50 0 [(0, .ref 50), (1, vi a0), (2, vi a1)] [] s (fun r => r = qI R) := by
  obtain ⟨d, rfl⟩ : ∃ d', d = d' + 1 := ⟨d - 1, by omega⟩
  unfold d_x4_mergePlace
  refine vLan 1 i50_0 rfl rfl ?_
  refine vGetC 4 i50_1 f50_22 sh_50 rfl rfl ?_
  refine vLin 5 i50_4 rfl rfl ?_
  refine vCallI 8 [.ref 17, vi a0] [] [(0, .ref 17), (1, vi a0)] i50_5 rfl (xlk0 l50_99) (Or.inl rfl) m65 rfl rfl (Nat.le_of_ble_eq_true rfl) (Nat.le_of_ble_eq_true rfl) (Nat.le_of_ble_eq_true rfl) (xh0 sh_17 (by decide)) rfl rfl (fun R1 => c_x5_firstRow N 17 8 isTexts_17 (by omega) s a0) (fun s11 v12 => ?_)
  refine vSin0 9 [(3, vi v12), (0, .ref 50), (1, vi a0), (2, vi a1)] i50_8 m50 (by decide) rfl rfl ?_
  refine vLan 10 i50_9 rfl rfl ?_
  refine vGetC 13 i50_10 f50_22 sh_50 rfl rfl ?_
  refine vLin 14 i50_13 rfl rfl ?_
  refine vCallI 17 [.ref 17, vi a0] [] [(0, .ref 17), (1, vi a0)] i50_14 rfl (xlk0 l50_105) (Or.inl rfl) m67 rfl rfl (Nat.le_of_ble_eq_true rfl) (Nat.le_of_ble_eq_true rfl) (Nat.le_of_ble_eq_true rfl) (xh0 sh_17 (by decide)) rfl rfl (fun R1 => c_x5_secondRow N 17 8 isTexts_17 (by omega) s11 a0) (fun s13 v14 => ?_)
  refine vSi0 19 [(4, vi v14), (3, vi v12), (0, .ref 50), (1, vi a0), (2, vi a1)] i50_17 m50 (by decide) rfl rfl ?_
  refine vLan 20 i50_19 rfl rfl ?_
  refine vGetR 23 i50_20 f50_26 sh_50 rfl rfl ?_
  refine vGetC 26 i50_23 f50_115 (told_0 H) rfl rfl ?_
  refine vLin 27 i50_26 rfl rfl ?_
  refine vIal 28 rfl i50_27 (told_5 H) rfl ?_
  refine vSi 30 (fun v15 => [(5, vi v15), (4, vi v14), (3, vi v12), (0, .ref 50), (1, vi a0), (2, vi a1)]) i50_28 m50 (by decide) (fun v15 => (rfl : xst1 [(4, vi v14), (3, vi v12), (0, .ref 50), (1, vi a0), (2, vi a1)] 5 (vi v15) = [(5, vi v15), (4, vi v14), (3, vi v12), (0, .ref 50), (1, vi a0), (2, vi a1)])) rfl (fun v15 => ?_)
  refine vLan 31 i50_30 rfl rfl ?_
  refine vGetR 34 i50_31 f50_26 sh_50 rfl rfl ?_
  refine vGetC 37 i50_34 f50_125 (told_0 H) rfl rfl ?_
  refine vLin 38 i50_37 rfl rfl ?_
  refine vIal 39 rfl i50_38 (told_6 H) rfl ?_
  refine vSi 41 (fun v16 => [(6, vi v16), (5, vi v15), (4, vi v14), (3, vi v12), (0, .ref 50), (1, vi a0), (2, vi a1)]) i50_39 m50 (by decide) (fun v16 => (rfl : xst1 [(5, vi v15), (4, vi v14), (3, vi v12), (0, .ref 50), (1, vi a0), (2, vi a1)] 6 (vi v16) = [(6, vi v16), (5, vi v15), (4, vi v14), (3, vi v12), (0, .ref 50), (1, vi a0), (2, vi a1)])) rfl (fun v16 => ?_)
  refine vLan 42 i50_41 rfl rfl ?_
  refine vLin 43 i50_42 rfl rfl ?_
  refine vLi 45 i50_43 rfl rfl ?_
  refine vCallI 48 [.ref 50, vi v12, vi v15] [] [(0, .ref 50), (1, vi v12), (2, vi v15)] i50_45 rfl (xlk0 l50_30) (Or.inl rfl) m41 rfl rfl (Nat.le_of_ble_eq_true rfl) (Nat.le_of_ble_eq_true rfl) (Nat.le_of_ble_eq_true rfl) (xh0 sh_50 (by decide)) rfl rfl (hr_askPlace d (by omega) s13 v12 v15) (fun s17 v18 => ?_)
  refine vSi0 50 [(7, vi v18), (6, vi v16), (5, vi v15), (4, vi v14), (3, vi v12), (0, .ref 50), (1, vi a0), (2, vi a1)] i50_48 m50 (by decide) rfl rfl ?_
  refine vLi 52 i50_50 rfl rfl ?_
  refine vK 53 i50_52 rfl ?_
  refine vCeq 64 56 rfl (show w32 1 = 1 from rfl) i50_53 rfl rfl ?_ ?_
  · exact fun hD => tLc [(0, .ref 50), (1, vi a0), (2, vi a1), (3, vi v12), (4, vi v14), (5, vi v15), (6, vi v16), (7, vi v18)] (xNdk [0, 1, 2, 3, 4, 5, 6, 7] rfl (by decide)) (xNdk [7, 6, 5, 4, 3, 0, 1, 2] rfl (by decide)) ⟨rfl, rfl, rfl, rfl, rfl, rfl, rfl, rfl, trivial⟩ (c_x4_mergePlace_64 N r_askPlace r_askHead t e hr_askPlace hr_askHead H hd  s17 a0 a1 v12 v14 v15 v16 v18 hD)
  · refine vLi 58 i50_56 rfl rfl ?_
    refine vZeq 64 61 rfl i50_58 rfl rfl ?_ ?_
    · exact fun hD => tLc [(0, .ref 50), (1, vi a0), (2, vi a1), (3, vi v12), (4, vi v14), (5, vi v15), (6, vi v16), (7, vi v18)] (xNdk [0, 1, 2, 3, 4, 5, 6, 7] rfl (by decide)) (xNdk [7, 6, 5, 4, 3, 0, 1, 2] rfl (by decide)) ⟨rfl, rfl, rfl, rfl, rfl, rfl, rfl, rfl, trivial⟩ (c_x4_mergePlace_64 N r_askPlace r_askHead t e hr_askPlace hr_askHead H hd  s17 a0 a1 v12 v14 v15 v16 v18 hD)
    · refine vLi 63 i50_61 rfl rfl ?_
      exact vRi i50_63 m50 rfl
theorem f56_22 : xFld xg 56 22 = some (3, 0) := by decide +kernel
theorem f56_26 : xFld xg 56 26 = some (3, 1) := by decide +kernel
theorem f56_115 : xFld xg 56 115 = some (5, 4) := by decide +kernel
theorem f56_69 : xFld xg 56 69 = some (4, 1) := by decide +kernel
theorem f56_18 : xFld xg 56 18 = some (3, 4) := by decide +kernel
theorem f56_122 : xFld xg 56 122 = some (5, 8) := by decide +kernel
theorem f56_108 : xFld xg 56 108 = some (4, 2) := by decide +kernel
theorem f56_94 : xFld xg 56 94 = some (4, 3) := by decide +kernel
theorem i56_151 : xIns xg 56 151 = some (.iload 5) := by decide +kernel
theorem i56_153 : xIns xg 56 153 = some (.ifCond .eq 6) := by decide +kernel
theorem i56_159 : xIns xg 56 159 = some (.iinc 4 1) := by decide +kernel
theorem m56 : (xMet xg 56).2.2 = (6, (some .int)) := by decide +kernel
theorem i56_162 : xIns xg 56 162 = some (.goto (-142)) := by decide +kernel
theorem i56_156 : xIns xg 56 156 = some (.iload 5) := by decide +kernel
theorem i56_158 : xIns xg 56 158 = some (.ireturn) := by decide +kernel
theorem i56_115 : xIns xg 56 115 = some (.iload 5) := by decide +kernel
theorem i56_117 : xIns xg 56 117 = some (.iconst 1) := by decide +kernel
theorem i56_118 : xIns xg 56 118 = some (.if_icmp .ne 33) := by decide +kernel
theorem i56_121 : xIns xg 56 121 = some (.aload_n 0) := by decide +kernel
theorem i56_122 : xIns xg 56 122 = some (.getfield 26) := by decide +kernel
theorem i56_125 : xIns xg 56 125 = some (.getfield 122) := by decide +kernel
theorem i56_128 : xIns xg 56 128 = some (.iload_n 1) := by decide +kernel
theorem i56_129 : xIns xg 56 129 = some (.bipush 64) := by decide +kernel
theorem i56_131 : xIns xg 56 131 = some (.imul) := by decide +kernel
theorem i56_132 : xIns xg 56 132 = some (.iload_n 2) := by decide +kernel
theorem i56_133 : xIns xg 56 133 = some (.iadd) := by decide +kernel
theorem i56_134 : xIns xg 56 134 = some (.iload 4) := by decide +kernel
theorem i56_136 : xIns xg 56 136 = some (.i2b) := by decide +kernel
theorem i56_137 : xIns xg 56 137 = some (.bastore) := by decide +kernel
theorem i56_138 : xIns xg 56 138 = some (.aload_n 0) := by decide +kernel
theorem i56_139 : xIns xg 56 139 = some (.getfield 26) := by decide +kernel
theorem i56_142 : xIns xg 56 142 = some (.getfield 115) := by decide +kernel
theorem i56_145 : xIns xg 56 145 = some (.iload_n 1) := by decide +kernel
theorem i56_146 : xIns xg 56 146 = some (.iload 4) := by decide +kernel
theorem i56_148 : xIns xg 56 148 = some (.iconst 1) := by decide +kernel
theorem i56_149 : xIns xg 56 149 = some (.iadd) := by decide +kernel
theorem i56_150 : xIns xg 56 150 = some (.iastore) := by decide +kernel
theorem i56_51 : xIns xg 56 51 = some (.iload 5) := by decide +kernel
theorem i56_53 : xIns xg 56 53 = some (.iconst 1) := by decide +kernel
theorem i56_54 : xIns xg 56 54 = some (.if_icmp .eq 6) := by decide +kernel
theorem i56_60 : xIns xg 56 60 = some (.aload_n 0) := by decide +kernel
theorem i56_61 : xIns xg 56 61 = some (.getfield 22) := by decide +kernel
theorem i56_64 : xIns xg 56 64 = some (.getfield 69) := by decide +kernel
theorem i56_67 : xIns xg 56 67 = some (.iload_n 1) := by decide +kernel
theorem i56_68 : xIns xg 56 68 = some (.iaload) := by decide +kernel
theorem i56_69 : xIns xg 56 69 = some (.iconst 4) := by decide +kernel
theorem i56_70 : xIns xg 56 70 = some (.if_icmp .ne 33) := by decide +kernel
theorem i56_103 : xIns xg 56 103 = some (.aload_n 0) := by decide +kernel
theorem i56_104 : xIns xg 56 104 = some (.iload_n 1) := by decide +kernel
theorem i56_105 : xIns xg 56 105 = some (.iload_n 2) := by decide +kernel
theorem i56_106 : xIns xg 56 106 = some (.aload_n 0) := by decide +kernel
theorem i56_107 : xIns xg 56 107 = some (.getfield 18) := by decide +kernel
theorem i56_110 : xIns xg 56 110 = some (.invokevirtual 118) := by decide +kernel
theorem i56_113 : xIns xg 56 113 = some (.istore 5) := by decide +kernel
theorem i56_73 : xIns xg 56 73 = some (.aload_n 0) := by decide +kernel
theorem i56_74 : xIns xg 56 74 = some (.getfield 22) := by decide +kernel
theorem i56_77 : xIns xg 56 77 = some (.getfield 108) := by decide +kernel
theorem i56_80 : xIns xg 56 80 = some (.iload_n 1) := by decide +kernel
theorem i56_81 : xIns xg 56 81 = some (.iaload) := by decide +kernel
theorem i56_82 : xIns xg 56 82 = some (.aload_n 0) := by decide +kernel
theorem i56_83 : xIns xg 56 83 = some (.getfield 18) := by decide +kernel
theorem i56_86 : xIns xg 56 86 = some (.aload_n 0) := by decide +kernel
theorem i56_87 : xIns xg 56 87 = some (.getfield 22) := by decide +kernel
theorem i56_90 : xIns xg 56 90 = some (.getfield 94) := by decide +kernel
theorem i56_93 : xIns xg 56 93 = some (.iload_n 1) := by decide +kernel
theorem i56_94 : xIns xg 56 94 = some (.iaload) := by decide +kernel
theorem i56_95 : xIns xg 56 95 = some (.invokestatic 111) := by decide +kernel
theorem i56_98 : xIns xg 56 98 = some (.istore 5) := by decide +kernel
theorem i56_100 : xIns xg 56 100 = some (.goto 15) := by decide +kernel
theorem i56_57 : xIns xg 56 57 = some (.iload 5) := by decide +kernel
theorem i56_59 : xIns xg 56 59 = some (.ireturn) := by decide +kernel
theorem i56_20 : xIns xg 56 20 = some (.iload 4) := by decide +kernel
theorem i56_22 : xIns xg 56 22 = some (.bipush 64) := by decide +kernel
theorem i56_24 : xIns xg 56 24 = some (.if_icmp .gt 141) := by decide +kernel
theorem i56_165 : xIns xg 56 165 = some (.bipush (-24)) := by decide +kernel
theorem i56_167 : xIns xg 56 167 = some (.ireturn) := by decide +kernel
theorem i56_27 : xIns xg 56 27 = some (.aload_n 0) := by decide +kernel
theorem i56_28 : xIns xg 56 28 = some (.iload_n 3) := by decide +kernel
theorem i56_29 : xIns xg 56 29 = some (.iload 4) := by decide +kernel
theorem i56_31 : xIns xg 56 31 = some (.invokevirtual 30) := by decide +kernel
theorem i56_34 : xIns xg 56 34 = some (.istore 5) := by decide +kernel
theorem i56_36 : xIns xg 56 36 = some (.iload 5) := by decide +kernel
theorem i56_38 : xIns xg 56 38 = some (.iconst 1) := by decide +kernel
theorem i56_39 : xIns xg 56 39 = some (.if_icmp .ne 12) := by decide +kernel
theorem i56_42 : xIns xg 56 42 = some (.aload_n 0) := by decide +kernel
theorem i56_43 : xIns xg 56 43 = some (.iload_n 3) := by decide +kernel
theorem i56_44 : xIns xg 56 44 = some (.iload 4) := by decide +kernel
theorem i56_46 : xIns xg 56 46 = some (.invokevirtual 34) := by decide +kernel
theorem i56_49 : xIns xg 56 49 = some (.istore 5) := by decide +kernel
theorem i56_0 : xIns xg 56 0 = some (.aload_n 0) := by decide +kernel
theorem i56_1 : xIns xg 56 1 = some (.getfield 22) := by decide +kernel
theorem i56_4 : xIns xg 56 4 = some (.iload_n 1) := by decide +kernel
theorem i56_5 : xIns xg 56 5 = some (.invokevirtual 99) := by decide +kernel
theorem i56_8 : xIns xg 56 8 = some (.istore_n 3) := by decide +kernel
theorem i56_9 : xIns xg 56 9 = some (.aload_n 0) := by decide +kernel
theorem i56_10 : xIns xg 56 10 = some (.getfield 26) := by decide +kernel
theorem i56_13 : xIns xg 56 13 = some (.getfield 115) := by decide +kernel
theorem i56_16 : xIns xg 56 16 = some (.iload_n 1) := by decide +kernel
theorem i56_17 : xIns xg 56 17 = some (.iaload) := by decide +kernel
theorem i56_18 : xIns xg 56 18 = some (.istore 4) := by decide +kernel
def d_x4_seekPlace_151 (N : Nat) (r_askPlace : St → Int → Int → Option Rs) (r_askHead : St → Int → Int → Option Rs) (t : Nat) (k20 : St → Int → Int → Int → Int → Option Rs) (s : St) (x1 : Int) (x2 : Int) (x3 : Int) (x4 : Int) (x5 : Int) : Option Rs :=
  (if (w32 x5) = 0 then bd (x4 + 1) fun v1 => k20 s x1 x2 x3 v1 else some (s, x5))
set_option maxHeartbeats 4000000 in
set_option maxRecDepth 100000 in
theorem c_x4_seekPlace_151 {sc : xS} {d : Nat} {R : Rs} (N : Nat) (r_askPlace : St → Int → Int → Option Rs) (r_askHead : St → Int → Int → Option Rs) (t : Nat) (e : Nat) (hr_askPlace : ∀ d, e ≤ d → ∀ (s : St) (a0 a1 : Int) (R : Rs), r_askPlace s a0 a1 = some R → vT sc d 41 0 [(0, .ref 50), (1, vi a0), (2, vi a1)] [] s (fun r => r = qI R)) (hr_askHead : ∀ d, e ≤ d → ∀ (s : St) (a0 a1 : Int) (R : Rs), r_askHead s a0 a1 = some R → vT sc d 40 0 [(0, .ref 50), (1, vi a0), (2, vi a1)] [] s (fun r => r = qI R)) (H : isTold t) (hd : e + 2 ≤ d) (k20 : St → Int → Int → Int → Int → Option Rs) (hk20 : ∀ (s : St) (x1 : Int) (x2 : Int) (x3 : Int) (x4 : Int), k20 s x1 x2 x3 x4 = some R → vT sc d 56 20 [(0, .ref 50), (1, vi x1), (2, vi x2), (3, vi x3), (4, vi x4)] [] s (fun r => r = qI R))  (s : St) (x1 : Int) (x2 : Int) (x3 : Int) (x4 : Int) (x5 : Int) : d_x4_seekPlace_151 N r_askPlace r_askHead t k20 s x1 x2 x3 x4 x5 = some R → vT sc d 56 151 [(0, .ref 50), (1, vi x1), (2, vi x2), (3, vi x3), (4, vi x4), (5, vi x5)] [] s (fun r => r = qI R) := by
  obtain ⟨d, rfl⟩ : ∃ d', d = d' + 1 := ⟨d - 1, by omega⟩
  unfold d_x4_seekPlace_151
  refine vLi 153 i56_151 rfl rfl ?_
  refine vZeq 159 156 rfl i56_153 rfl rfl ?_ ?_
  · refine vInc 162 (fun v1 => [(4, vi v1), (0, .ref 50), (1, vi x1), (2, vi x2), (3, vi x3), (5, vi x5)]) i56_159 m56 (by decide) rfl (fun _ => rfl) rfl (fun v1 => ?_)
    refine vGo 20 i56_162 rfl ?_
    exact fun hD => tLc [(0, .ref 50), (1, vi x1), (2, vi x2), (3, vi x3), (4, vi v1)] (xNdk [0, 1, 2, 3, 4] rfl (by decide)) (xNdk [4, 0, 1, 2, 3, 5] rfl (by decide)) ⟨rfl, rfl, rfl, rfl, rfl, trivial⟩ (hk20 s x1 x2 x3 v1 hD)
  · refine vLi 158 i56_156 rfl rfl ?_
    exact vRi i56_158 m56 rfl
def d_x4_seekPlace_115 (N : Nat) (r_askPlace : St → Int → Int → Option Rs) (r_askHead : St → Int → Int → Option Rs) (t : Nat) (k20 : St → Int → Int → Int → Int → Option Rs) (s : St) (x1 : Int) (x2 : Int) (x3 : Int) (x4 : Int) (x5 : Int) : Option Rs :=
  (if (w32 x5) = 1 then if s 50 1 = (t : Int) then if 0 ≤ (w32 ((x1 * 64) + x2)) ∧ (w32 ((x1 * 64) + x2)) < ((12288 : Nat) : Int) then bd (up s (t + 9) (Int.toNat (w32 ((x1 * 64) + x2))) (w8 (w8 x4))) fun s2 => if s2 50 1 = (t : Int) then if 0 ≤ (w32 x1) ∧ (w32 x1) < ((192 : Nat) : Int) then bd (up s2 (t + 5) (Int.toNat (w32 x1)) (x4 + 1)) fun s3 => d_x4_seekPlace_151 N r_askPlace r_askHead t k20 s3 x1 x2 x3 x4 x5 else none else none else none else none else d_x4_seekPlace_151 N r_askPlace r_askHead t k20 s x1 x2 x3 x4 x5)
set_option maxHeartbeats 4000000 in
set_option maxRecDepth 100000 in
theorem c_x4_seekPlace_115 {sc : xS} {d : Nat} {R : Rs} (N : Nat) (r_askPlace : St → Int → Int → Option Rs) (r_askHead : St → Int → Int → Option Rs) (t : Nat) (e : Nat) (hr_askPlace : ∀ d, e ≤ d → ∀ (s : St) (a0 a1 : Int) (R : Rs), r_askPlace s a0 a1 = some R → vT sc d 41 0 [(0, .ref 50), (1, vi a0), (2, vi a1)] [] s (fun r => r = qI R)) (hr_askHead : ∀ d, e ≤ d → ∀ (s : St) (a0 a1 : Int) (R : Rs), r_askHead s a0 a1 = some R → vT sc d 40 0 [(0, .ref 50), (1, vi a0), (2, vi a1)] [] s (fun r => r = qI R)) (H : isTold t) (hd : e + 2 ≤ d) (k20 : St → Int → Int → Int → Int → Option Rs) (hk20 : ∀ (s : St) (x1 : Int) (x2 : Int) (x3 : Int) (x4 : Int), k20 s x1 x2 x3 x4 = some R → vT sc d 56 20 [(0, .ref 50), (1, vi x1), (2, vi x2), (3, vi x3), (4, vi x4)] [] s (fun r => r = qI R))  (s : St) (x1 : Int) (x2 : Int) (x3 : Int) (x4 : Int) (x5 : Int) : d_x4_seekPlace_115 N r_askPlace r_askHead t k20 s x1 x2 x3 x4 x5 = some R → vT sc d 56 115 [(0, .ref 50), (1, vi x1), (2, vi x2), (3, vi x3), (4, vi x4), (5, vi x5)] [] s (fun r => r = qI R) := by
  obtain ⟨d, rfl⟩ : ∃ d', d = d' + 1 := ⟨d - 1, by omega⟩
  unfold d_x4_seekPlace_115
  refine vLi 117 i56_115 rfl rfl ?_
  refine vK 118 i56_117 rfl ?_
  refine vCne 151 121 rfl (show w32 1 = 1 from rfl) i56_118 rfl rfl ?_ ?_
  · exact fun hD => c_x4_seekPlace_151 N r_askPlace r_askHead t e hr_askPlace hr_askHead H hd k20 hk20 s x1 x2 x3 x4 x5 hD
  · refine vLan 122 i56_121 rfl rfl ?_
    refine vGetR 125 i56_122 f56_26 sh_50 rfl rfl ?_
    refine vGetC 128 i56_125 f56_122 (told_0 H) rfl rfl ?_
    refine vLin 129 i56_128 rfl rfl ?_
    refine vKb 131 i56_129 (by decide) rfl ?_
    refine vImul 132 i56_131 rfl ?_
    refine vLin 133 i56_132 rfl rfl ?_
    refine vIadd 134 i56_133 rfl ?_
    refine vLi 136 i56_134 rfl rfl ?_
    refine vI2b 137 i56_136 rfl ?_
    refine vBas 138 rfl i56_137 (told_9 H) rfl (fun s2 => ?_)
    refine vLan 139 i56_138 rfl rfl ?_
    refine vGetR 142 i56_139 f56_26 sh_50 rfl rfl ?_
    refine vGetC 145 i56_142 f56_115 (told_0 H) rfl rfl ?_
    refine vLin 146 i56_145 rfl rfl ?_
    refine vLi 148 i56_146 rfl rfl ?_
    refine vK 149 i56_148 rfl ?_
    refine vIadd 150 i56_149 rfl ?_
    refine vIas 151 rfl i56_150 (told_5 H) rfl (fun s3 => ?_)
    exact fun hD => c_x4_seekPlace_151 N r_askPlace r_askHead t e hr_askPlace hr_askHead H hd k20 hk20 s3 x1 x2 x3 x4 x5 hD
def d_x4_seekPlace_51 (N : Nat) (r_askPlace : St → Int → Int → Option Rs) (r_askHead : St → Int → Int → Option Rs) (t : Nat) (k20 : St → Int → Int → Int → Int → Option Rs) (s : St) (x1 : Int) (x2 : Int) (x3 : Int) (x4 : Int) (x5 : Int) : Option Rs :=
  (if (w32 x5) = 1 then if 0 ≤ (w32 x1) ∧ (w32 x1) < ((192 : Nat) : Int) then (if (w32 (s 19 (Int.toNat (w32 x1)))) = 4 then if 0 ≤ (w32 x1) ∧ (w32 x1) < ((192 : Nat) : Int) then if 0 ≤ (w32 x1) ∧ (w32 x1) < ((192 : Nat) : Int) then bI (d_x4_passes N  s (s 20 (Int.toNat (w32 x1))) (s 50 4) (s 21 (Int.toNat (w32 x1)))) fun s6 v7 => d_x4_seekPlace_115 N r_askPlace r_askHead t k20 s6 x1 x2 x3 x4 v7 else none else none else bI (d_x4_passesOwnHeads N r_askPlace r_askHead t s x1 x2 (s 50 4)) fun s4 v5 => d_x4_seekPlace_115 N r_askPlace r_askHead t k20 s4 x1 x2 x3 x4 v5) else none else some (s, x5))
set_option maxHeartbeats 4000000 in
set_option maxRecDepth 100000 in
theorem c_x4_seekPlace_51 {sc : xS} {d : Nat} {R : Rs} (N : Nat) (r_askPlace : St → Int → Int → Option Rs) (r_askHead : St → Int → Int → Option Rs) (t : Nat) (e : Nat) (hr_askPlace : ∀ d, e ≤ d → ∀ (s : St) (a0 a1 : Int) (R : Rs), r_askPlace s a0 a1 = some R → vT sc d 41 0 [(0, .ref 50), (1, vi a0), (2, vi a1)] [] s (fun r => r = qI R)) (hr_askHead : ∀ d, e ≤ d → ∀ (s : St) (a0 a1 : Int) (R : Rs), r_askHead s a0 a1 = some R → vT sc d 40 0 [(0, .ref 50), (1, vi a0), (2, vi a1)] [] s (fun r => r = qI R)) (H : isTold t) (hd : e + 2 ≤ d) (k20 : St → Int → Int → Int → Int → Option Rs) (hk20 : ∀ (s : St) (x1 : Int) (x2 : Int) (x3 : Int) (x4 : Int), k20 s x1 x2 x3 x4 = some R → vT sc d 56 20 [(0, .ref 50), (1, vi x1), (2, vi x2), (3, vi x3), (4, vi x4)] [] s (fun r => r = qI R))  (s : St) (x1 : Int) (x2 : Int) (x3 : Int) (x4 : Int) (x5 : Int) : d_x4_seekPlace_51 N r_askPlace r_askHead t k20 s x1 x2 x3 x4 x5 = some R → vT sc d 56 51 [(0, .ref 50), (1, vi x1), (2, vi x2), (3, vi x3), (4, vi x4), (5, vi x5)] [] s (fun r => r = qI R) := by
  obtain ⟨d, rfl⟩ : ∃ d', d = d' + 1 := ⟨d - 1, by omega⟩
  unfold d_x4_seekPlace_51
  refine vLi 53 i56_51 rfl rfl ?_
  refine vK 54 i56_53 rfl ?_
  refine vCeq 60 57 rfl (show w32 1 = 1 from rfl) i56_54 rfl rfl ?_ ?_
  · refine vLan 61 i56_60 rfl rfl ?_
    refine vGetC 64 i56_61 f56_22 sh_50 rfl rfl ?_
    refine vGetC 67 i56_64 f56_69 sh_17 rfl rfl ?_
    refine vLin 68 i56_67 rfl rfl ?_
    refine vIal 69 rfl i56_68 sh_19 rfl ?_
    refine vK 70 i56_69 rfl ?_
    refine vCne 103 73 rfl (show w32 4 = 4 from rfl) i56_70 rfl rfl ?_ ?_
    · refine vLan 104 i56_103 rfl rfl ?_
      refine vLin 105 i56_104 rfl rfl ?_
      refine vLin 106 i56_105 rfl rfl ?_
      refine vLan 107 i56_106 rfl rfl ?_
      refine vGetL 110 i56_107 f56_18 sh_50 rfl rfl ?_
      refine vCallI 113 [.ref 50, vi x1, vi x2, vl (s 50 4)] [] [(0, .ref 50), (1, vi x1), (2, vi x2), (3, vl (s 50 4))] i56_110 rfl (xlk0 l56_118) (Or.inl rfl) m53 rfl rfl (Nat.le_of_ble_eq_true rfl) (Nat.le_of_ble_eq_true rfl) (Nat.le_of_ble_eq_true rfl) (xh0 sh_50 (by decide)) rfl rfl (fun R1 => c_x4_passesOwnHeads N r_askPlace r_askHead t e hr_askPlace hr_askHead H (by omega) s x1 x2 (s 50 4)) (fun s4 v5 => ?_)
      refine vSi0 115 [(5, vi v5), (0, .ref 50), (1, vi x1), (2, vi x2), (3, vi x3), (4, vi x4)] i56_113 m56 (by decide) rfl rfl ?_
      exact fun hD => tLc [(0, .ref 50), (1, vi x1), (2, vi x2), (3, vi x3), (4, vi x4), (5, vi v5)] (xNdk [0, 1, 2, 3, 4, 5] rfl (by decide)) (xNdk [5, 0, 1, 2, 3, 4] rfl (by decide)) ⟨rfl, rfl, rfl, rfl, rfl, rfl, trivial⟩ (c_x4_seekPlace_115 N r_askPlace r_askHead t e hr_askPlace hr_askHead H hd k20 hk20 s4 x1 x2 x3 x4 v5 hD)
    · refine vLan 74 i56_73 rfl rfl ?_
      refine vGetC 77 i56_74 f56_22 sh_50 rfl rfl ?_
      refine vGetC 80 i56_77 f56_108 sh_17 rfl rfl ?_
      refine vLin 81 i56_80 rfl rfl ?_
      refine vIal 82 rfl i56_81 sh_20 rfl ?_
      refine vLan 83 i56_82 rfl rfl ?_
      refine vGetL 86 i56_83 f56_18 sh_50 rfl rfl ?_
      refine vLan 87 i56_86 rfl rfl ?_
      refine vGetC 90 i56_87 f56_22 sh_50 rfl rfl ?_
      refine vGetC 93 i56_90 f56_94 sh_17 rfl rfl ?_
      refine vLin 94 i56_93 rfl rfl ?_
      refine vIal 95 rfl i56_94 sh_21 rfl ?_
      refine vCallI 98 [vi (s 20 (Int.toNat (w32 x1))), vl (s 50 4), vi (s 21 (Int.toNat (w32 x1)))] [] [(0, vi (s 20 (Int.toNat (w32 x1)))), (1, vl (s 50 4)), (3, vi (s 21 (Int.toNat (w32 x1))))] i56_95 rfl (xlk1 l56_111) (Or.inr (Or.inl rfl)) m52 rfl rfl (Nat.le_of_ble_eq_true rfl) (Nat.le_of_ble_eq_true rfl) (Nat.le_of_ble_eq_true rfl) rfl rfl rfl (fun R1 => c_x4_passes N   (by omega) s (s 20 (Int.toNat (w32 x1))) (s 50 4) (s 21 (Int.toNat (w32 x1)))) (fun s6 v7 => ?_)
      refine vSi0 100 [(5, vi v7), (0, .ref 50), (1, vi x1), (2, vi x2), (3, vi x3), (4, vi x4)] i56_98 m56 (by decide) rfl rfl ?_
      refine vGo 115 i56_100 rfl ?_
      exact fun hD => tLc [(0, .ref 50), (1, vi x1), (2, vi x2), (3, vi x3), (4, vi x4), (5, vi v7)] (xNdk [0, 1, 2, 3, 4, 5] rfl (by decide)) (xNdk [5, 0, 1, 2, 3, 4] rfl (by decide)) ⟨rfl, rfl, rfl, rfl, rfl, rfl, trivial⟩ (c_x4_seekPlace_115 N r_askPlace r_askHead t e hr_askPlace hr_askHead H hd k20 hk20 s6 x1 x2 x3 x4 v7 hD)
  · refine vLi 59 i56_57 rfl rfl ?_
    exact vRi i56_59 m56 rfl
def d_x4_seekPlace_20 (N : Nat) (r_askPlace : St → Int → Int → Option Rs) (r_askHead : St → Int → Int → Option Rs) (t : Nat)  (k20 : St → Int → Int → Int → Int → Option Rs) (s : St) (x1 : Int) (x2 : Int) (x3 : Int) (x4 : Int) : Option Rs :=
  (if 64 < (w32 x4) then some (s, (-24)) else bI (r_askPlace s x3 x4) fun s8 v9 => (if (w32 v9) = 1 then bI (r_askHead s8 x3 x4) fun s10 v11 => d_x4_seekPlace_51 N r_askPlace r_askHead t k20 s10 x1 x2 x3 x4 v11 else d_x4_seekPlace_51 N r_askPlace r_askHead t k20 s8 x1 x2 x3 x4 v9))
def d_x4_seekPlace_20L (N : Nat) (r_askPlace : St → Int → Int → Option Rs) (r_askHead : St → Int → Int → Option Rs) (t : Nat)  : Nat → St → Int → Int → Int → Int → Option Rs
  | 0 => fun _ _ _ _ _ => none
  | n + 1 => d_x4_seekPlace_20 N r_askPlace r_askHead t  (d_x4_seekPlace_20L N r_askPlace r_askHead t  n)
set_option maxHeartbeats 4000000 in
set_option maxRecDepth 100000 in
theorem c_x4_seekPlace_20 {sc : xS} {d : Nat} {R : Rs} (N : Nat) (r_askPlace : St → Int → Int → Option Rs) (r_askHead : St → Int → Int → Option Rs) (t : Nat) (e : Nat) (hr_askPlace : ∀ d, e ≤ d → ∀ (s : St) (a0 a1 : Int) (R : Rs), r_askPlace s a0 a1 = some R → vT sc d 41 0 [(0, .ref 50), (1, vi a0), (2, vi a1)] [] s (fun r => r = qI R)) (hr_askHead : ∀ d, e ≤ d → ∀ (s : St) (a0 a1 : Int) (R : Rs), r_askHead s a0 a1 = some R → vT sc d 40 0 [(0, .ref 50), (1, vi a0), (2, vi a1)] [] s (fun r => r = qI R)) (H : isTold t) (hd : e + 2 ≤ d)   (k20 : St → Int → Int → Int → Int → Option Rs) (hk20 : ∀ (s : St) (x1 : Int) (x2 : Int) (x3 : Int) (x4 : Int), k20 s x1 x2 x3 x4 = some R → vT sc d 56 20 [(0, .ref 50), (1, vi x1), (2, vi x2), (3, vi x3), (4, vi x4)] [] s (fun r => r = qI R)) (s : St) (x1 : Int) (x2 : Int) (x3 : Int) (x4 : Int) : d_x4_seekPlace_20 N r_askPlace r_askHead t  k20 s x1 x2 x3 x4 = some R → vT sc d 56 20 [(0, .ref 50), (1, vi x1), (2, vi x2), (3, vi x3), (4, vi x4)] [] s (fun r => r = qI R) := by
  obtain ⟨d, rfl⟩ : ∃ d', d = d' + 1 := ⟨d - 1, by omega⟩
  unfold d_x4_seekPlace_20
  refine vLi 22 i56_20 rfl rfl ?_
  refine vKb 24 i56_22 (by decide) rfl ?_
  refine vCgt 165 27 rfl (show w32 64 = 64 from rfl) i56_24 rfl rfl ?_ ?_
  · refine vKb 167 i56_165 (by decide) rfl ?_
    exact vRi i56_167 m56 rfl
  · refine vLan 28 i56_27 rfl rfl ?_
    refine vLin 29 i56_28 rfl rfl ?_
    refine vLi 31 i56_29 rfl rfl ?_
    refine vCallI 34 [.ref 50, vi x3, vi x4] [] [(0, .ref 50), (1, vi x3), (2, vi x4)] i56_31 rfl (xlk0 l56_30) (Or.inl rfl) m41 rfl rfl (Nat.le_of_ble_eq_true rfl) (Nat.le_of_ble_eq_true rfl) (Nat.le_of_ble_eq_true rfl) (xh0 sh_50 (by decide)) rfl rfl (hr_askPlace d (by omega) s x3 x4) (fun s8 v9 => ?_)
    refine vSi0 36 [(5, vi v9), (0, .ref 50), (1, vi x1), (2, vi x2), (3, vi x3), (4, vi x4)] i56_34 m56 (by decide) rfl rfl ?_
    refine vLi 38 i56_36 rfl rfl ?_
    refine vK 39 i56_38 rfl ?_
    refine vCne 51 42 rfl (show w32 1 = 1 from rfl) i56_39 rfl rfl ?_ ?_
    · exact fun hD => tLc [(0, .ref 50), (1, vi x1), (2, vi x2), (3, vi x3), (4, vi x4), (5, vi v9)] (xNdk [0, 1, 2, 3, 4, 5] rfl (by decide)) (xNdk [5, 0, 1, 2, 3, 4] rfl (by decide)) ⟨rfl, rfl, rfl, rfl, rfl, rfl, trivial⟩ (c_x4_seekPlace_51 N r_askPlace r_askHead t e hr_askPlace hr_askHead H hd k20 hk20 s8 x1 x2 x3 x4 v9 hD)
    · refine vLan 43 i56_42 rfl rfl ?_
      refine vLin 44 i56_43 rfl rfl ?_
      refine vLi 46 i56_44 rfl rfl ?_
      refine vCallI 49 [.ref 50, vi x3, vi x4] [] [(0, .ref 50), (1, vi x3), (2, vi x4)] i56_46 rfl (xlk0 l56_34) (Or.inl rfl) m40 rfl rfl (Nat.le_of_ble_eq_true rfl) (Nat.le_of_ble_eq_true rfl) (Nat.le_of_ble_eq_true rfl) (xh0 sh_50 (by decide)) rfl rfl (hr_askHead d (by omega) s8 x3 x4) (fun s10 v11 => ?_)
      refine vSi0 51 [(5, vi v11), (0, .ref 50), (1, vi x1), (2, vi x2), (3, vi x3), (4, vi x4)] i56_49 m56 (by decide) rfl rfl ?_
      exact fun hD => tLc [(0, .ref 50), (1, vi x1), (2, vi x2), (3, vi x3), (4, vi x4), (5, vi v11)] (xNdk [0, 1, 2, 3, 4, 5] rfl (by decide)) (xNdk [5, 0, 1, 2, 3, 4] rfl (by decide)) ⟨rfl, rfl, rfl, rfl, rfl, rfl, trivial⟩ (c_x4_seekPlace_51 N r_askPlace r_askHead t e hr_askPlace hr_askHead H hd k20 hk20 s10 x1 x2 x3 x4 v11 hD)
theorem c_x4_seekPlace_20L {sc : xS} {d : Nat} {R : Rs} (N : Nat) (r_askPlace : St → Int → Int → Option Rs) (r_askHead : St → Int → Int → Option Rs) (t : Nat) (e : Nat) (hr_askPlace : ∀ d, e ≤ d → ∀ (s : St) (a0 a1 : Int) (R : Rs), r_askPlace s a0 a1 = some R → vT sc d 41 0 [(0, .ref 50), (1, vi a0), (2, vi a1)] [] s (fun r => r = qI R)) (hr_askHead : ∀ d, e ≤ d → ∀ (s : St) (a0 a1 : Int) (R : Rs), r_askHead s a0 a1 = some R → vT sc d 40 0 [(0, .ref 50), (1, vi a0), (2, vi a1)] [] s (fun r => r = qI R)) (H : isTold t) (hd : e + 2 ≤ d)   : ∀ (n : Nat) (s : St) (x1 : Int) (x2 : Int) (x3 : Int) (x4 : Int), d_x4_seekPlace_20L N r_askPlace r_askHead t  n s x1 x2 x3 x4 = some R → vT sc d 56 20 [(0, .ref 50), (1, vi x1), (2, vi x2), (3, vi x3), (4, vi x4)] [] s (fun r => r = qI R) := by
  intro n
  induction n with
  | zero => intro s x1 x2 x3 x4 hD; cases hD
  | succ n ih => intro s x1 x2 x3 x4 hD; exact c_x4_seekPlace_20 N r_askPlace r_askHead t e hr_askPlace hr_askHead H hd  _ ih s x1 x2 x3 x4 hD
def d_x4_seekPlace (N : Nat) (r_askPlace : St → Int → Int → Option Rs) (r_askHead : St → Int → Int → Option Rs) (t : Nat)  (s : St) (a0 : Int) (a1 : Int) : Option Rs :=
  bI (d_x5_firstRow N 17 8 s a0) fun s12 v13 => if s12 50 1 = (t : Int) then if 0 ≤ (w32 a0) ∧ (w32 a0) < ((192 : Nat) : Int) then bd (s12 (t + 5) (Int.toNat (w32 a0))) fun v14 => d_x4_seekPlace_20L N r_askPlace r_askHead t  N s12 a0 a1 v13 v14 else none else none
set_option maxHeartbeats 4000000 in
set_option maxRecDepth 100000 in
theorem c_x4_seekPlace {sc : xS} {d : Nat} {R : Rs} (N : Nat) (r_askPlace : St → Int → Int → Option Rs) (r_askHead : St → Int → Int → Option Rs) (t : Nat) (e : Nat) (hr_askPlace : ∀ d, e ≤ d → ∀ (s : St) (a0 a1 : Int) (R : Rs), r_askPlace s a0 a1 = some R → vT sc d 41 0 [(0, .ref 50), (1, vi a0), (2, vi a1)] [] s (fun r => r = qI R)) (hr_askHead : ∀ d, e ≤ d → ∀ (s : St) (a0 a1 : Int) (R : Rs), r_askHead s a0 a1 = some R → vT sc d 40 0 [(0, .ref 50), (1, vi a0), (2, vi a1)] [] s (fun r => r = qI R)) (H : isTold t) (hd : e + 2 ≤ d)   (s : St) (a0 : Int) (a1 : Int) : d_x4_seekPlace N r_askPlace r_askHead t  s a0 a1 = some R → vT sc d 56 0 [(0, .ref 50), (1, vi a0), (2, vi a1)] [] s (fun r => r = qI R) := by
  obtain ⟨d, rfl⟩ : ∃ d', d = d' + 1 := ⟨d - 1, by omega⟩
  unfold d_x4_seekPlace
  refine vLan 1 i56_0 rfl rfl ?_
  refine vGetC 4 i56_1 f56_22 sh_50 rfl rfl ?_
  refine vLin 5 i56_4 rfl rfl ?_
  refine vCallI 8 [.ref 17, vi a0] [] [(0, .ref 17), (1, vi a0)] i56_5 rfl (xlk0 l56_99) (Or.inl rfl) m65 rfl rfl (Nat.le_of_ble_eq_true rfl) (Nat.le_of_ble_eq_true rfl) (Nat.le_of_ble_eq_true rfl) (xh0 sh_17 (by decide)) rfl rfl (fun R1 => c_x5_firstRow N 17 8 isTexts_17 (by omega) s a0) (fun s12 v13 => ?_)
  refine vSin0 9 [(3, vi v13), (0, .ref 50), (1, vi a0), (2, vi a1)] i56_8 m56 (by decide) rfl rfl ?_
  refine vLan 10 i56_9 rfl rfl ?_
  refine vGetR 13 i56_10 f56_26 sh_50 rfl rfl ?_
  refine vGetC 16 i56_13 f56_115 (told_0 H) rfl rfl ?_
  refine vLin 17 i56_16 rfl rfl ?_
  refine vIal 18 rfl i56_17 (told_5 H) rfl ?_
  refine vSi 20 (fun v14 => [(4, vi v14), (3, vi v13), (0, .ref 50), (1, vi a0), (2, vi a1)]) i56_18 m56 (by decide) (fun v14 => (rfl : xst1 [(3, vi v13), (0, .ref 50), (1, vi a0), (2, vi a1)] 4 (vi v14) = [(4, vi v14), (3, vi v13), (0, .ref 50), (1, vi a0), (2, vi a1)])) rfl (fun v14 => ?_)
  exact fun hD => tLc [(0, .ref 50), (1, vi a0), (2, vi a1), (3, vi v13), (4, vi v14)] (xNdk [0, 1, 2, 3, 4] rfl (by decide)) (xNdk [4, 3, 0, 1, 2] rfl (by decide)) ⟨rfl, rfl, rfl, rfl, rfl, trivial⟩ (c_x4_seekPlace_20L N r_askPlace r_askHead t e hr_askPlace hr_askHead H hd  N s12 a0 a1 v13 v14 hD)
theorem f43_15 : xFld xg 43 15 = some (3, 3) := by decide +kernel
theorem f43_9 : xFld xg 43 9 = some (3, 2) := by decide +kernel
theorem i43_0 : xIns xg 43 0 = some (.aload_n 0) := by decide +kernel
theorem i43_1 : xIns xg 43 1 = some (.getfield 15) := by decide +kernel
theorem i43_4 : xIns xg 43 4 = some (.aload_n 0) := by decide +kernel
theorem i43_5 : xIns xg 43 5 = some (.getfield 9) := by decide +kernel
theorem i43_8 : xIns xg 43 8 = some (.if_icmp .lt 5) := by decide +kernel
theorem i43_13 : xIns xg 43 13 = some (.aload_n 0) := by decide +kernel
theorem i43_14 : xIns xg 43 14 = some (.dup) := by decide +kernel
theorem i43_15 : xIns xg 43 15 = some (.getfield 15) := by decide +kernel
theorem i43_18 : xIns xg 43 18 = some (.iconst 1) := by decide +kernel
theorem i43_19 : xIns xg 43 19 = some (.iadd) := by decide +kernel
theorem i43_20 : xIns xg 43 20 = some (.putfield 15) := by decide +kernel
theorem p43_15 : xPut xg 43 15 = some (3, 3, .int) := by decide +kernel
theorem i43_23 : xIns xg 43 23 = some (.iconst 1) := by decide +kernel
theorem i43_24 : xIns xg 43 24 = some (.ireturn) := by decide +kernel
theorem m43 : (xMet xg 43).2.2 = (1, (some .boolean)) := by decide +kernel
theorem i43_11 : xIns xg 43 11 = some (.iconst 0) := by decide +kernel
theorem i43_12 : xIns xg 43 12 = some (.ireturn) := by decide +kernel
def d_x4_beginsRun (N : Nat)  (s : St)  : Option Rs :=
  (if (w32 (s 50 3)) < (w32 (s 50 2)) then bd (up s 50 3 ((s 50 3) + 1)) fun s1 => some (s1, 1) else some (s, 0))
set_option maxHeartbeats 4000000 in
set_option maxRecDepth 100000 in
theorem c_x4_beginsRun {sc : xS} {d : Nat} {R : Rs} (N : Nat)  (hd : 0 ≤ d)   (s : St)  : d_x4_beginsRun N  s  = some R → vT sc d 43 0 [(0, .ref 50)] [] s (fun r => r = qI R) := by
  unfold d_x4_beginsRun
  refine vLan 1 i43_0 rfl rfl ?_
  refine vGet 4 i43_1 f43_15 sh_50 rfl rfl ?_
  refine vLan 5 i43_4 rfl rfl ?_
  refine vGet 8 i43_5 f43_9 sh_50 rfl rfl ?_
  refine vClt 13 11 rfl rfl i43_8 rfl rfl ?_ ?_
  · refine vLan 14 i43_13 rfl rfl ?_
    refine vD 15 i43_14 rfl rfl rfl ?_
    refine vGet 18 i43_15 f43_15 sh_50 rfl rfl ?_
    refine vK 19 i43_18 rfl ?_
    refine vIadd 20 i43_19 rfl ?_
    refine vPut 23 i43_20 p43_15 sh_50 rfl rfl (fun s1 => ?_)
    refine vK 24 i43_23 rfl ?_
    exact vRi i43_24 m43 (by decide)
  · refine vK 12 i43_11 rfl ?_
    exact vRi i43_12 m43 (by decide)
theorem f44_22 : xFld xg 44 22 = some (3, 0) := by decide +kernel
theorem f44_69 : xFld xg 44 69 = some (4, 1) := by decide +kernel
theorem f44_94 : xFld xg 44 94 = some (4, 3) := by decide +kernel
theorem f44_96 : xFld xg 44 96 = some (4, 0) := by decide +kernel
theorem i44_4 : xIns xg 44 4 = some (.iload_n 3) := by decide +kernel
theorem i44_5 : xIns xg 44 5 = some (.bipush 8) := by decide +kernel
theorem i44_7 : xIns xg 44 7 = some (.if_icmp .gt 87) := by decide +kernel
theorem i44_94 : xIns xg 44 94 = some (.bipush (-21)) := by decide +kernel
theorem i44_96 : xIns xg 44 96 = some (.ireturn) := by decide +kernel
theorem m44 : (xMet xg 44).2.2 = (5, (some .int)) := by decide +kernel
theorem i44_10 : xIns xg 44 10 = some (.iload_n 2) := by decide +kernel
theorem i44_11 : xIns xg 44 11 = some (.ifCond .lt 15) := by decide +kernel
theorem i44_26 : xIns xg 44 26 = some (.bipush (-23)) := by decide +kernel
theorem i44_28 : xIns xg 44 28 = some (.ireturn) := by decide +kernel
theorem i44_14 : xIns xg 44 14 = some (.iload_n 2) := by decide +kernel
theorem i44_15 : xIns xg 44 15 = some (.aload_n 0) := by decide +kernel
theorem i44_16 : xIns xg 44 16 = some (.getfield 22) := by decide +kernel
theorem i44_19 : xIns xg 44 19 = some (.getfield 69) := by decide +kernel
theorem i44_22 : xIns xg 44 22 = some (.arraylength) := by decide +kernel
theorem i44_23 : xIns xg 44 23 = some (.if_icmp .lt 6) := by decide +kernel
theorem i44_29 : xIns xg 44 29 = some (.aload_n 0) := by decide +kernel
theorem i44_30 : xIns xg 44 30 = some (.getfield 22) := by decide +kernel
theorem i44_33 : xIns xg 44 33 = some (.getfield 69) := by decide +kernel
theorem i44_36 : xIns xg 44 36 = some (.iload_n 2) := by decide +kernel
theorem i44_37 : xIns xg 44 37 = some (.iaload) := by decide +kernel
theorem i44_38 : xIns xg 44 38 = some (.ifCond .eq 5) := by decide +kernel
theorem i44_43 : xIns xg 44 43 = some (.aload_n 0) := by decide +kernel
theorem i44_44 : xIns xg 44 44 = some (.getfield 22) := by decide +kernel
theorem i44_47 : xIns xg 44 47 = some (.getfield 94) := by decide +kernel
theorem i44_50 : xIns xg 44 50 = some (.iload_n 2) := by decide +kernel
theorem i44_51 : xIns xg 44 51 = some (.iaload) := by decide +kernel
theorem i44_52 : xIns xg 44 52 = some (.istore 4) := by decide +kernel
theorem i44_54 : xIns xg 44 54 = some (.iload 4) := by decide +kernel
theorem i44_56 : xIns xg 44 56 = some (.ifCond .lt 23) := by decide +kernel
theorem i44_79 : xIns xg 44 79 = some (.bipush (-23)) := by decide +kernel
theorem i44_81 : xIns xg 44 81 = some (.ireturn) := by decide +kernel
theorem i44_59 : xIns xg 44 59 = some (.iload 4) := by decide +kernel
theorem i44_61 : xIns xg 44 61 = some (.bipush 8) := by decide +kernel
theorem i44_63 : xIns xg 44 63 = some (.if_icmp .ge 16) := by decide +kernel
theorem i44_66 : xIns xg 44 66 = some (.aload_n 0) := by decide +kernel
theorem i44_67 : xIns xg 44 67 = some (.getfield 22) := by decide +kernel
theorem i44_70 : xIns xg 44 70 = some (.getfield 96) := by decide +kernel
theorem i44_73 : xIns xg 44 73 = some (.iload 4) := by decide +kernel
theorem i44_75 : xIns xg 44 75 = some (.iaload) := by decide +kernel
theorem i44_76 : xIns xg 44 76 = some (.ifCond .ne 6) := by decide +kernel
theorem i44_82 : xIns xg 44 82 = some (.iload 4) := by decide +kernel
theorem i44_84 : xIns xg 44 84 = some (.bipush 24) := by decide +kernel
theorem i44_86 : xIns xg 44 86 = some (.imul) := by decide +kernel
theorem i44_87 : xIns xg 44 87 = some (.istore_n 2) := by decide +kernel
theorem i44_88 : xIns xg 44 88 = some (.iinc 3 1) := by decide +kernel
theorem i44_91 : xIns xg 44 91 = some (.goto (-87)) := by decide +kernel
theorem i44_41 : xIns xg 44 41 = some (.iload_n 2) := by decide +kernel
theorem i44_42 : xIns xg 44 42 = some (.ireturn) := by decide +kernel
theorem i44_0 : xIns xg 44 0 = some (.iload_n 1) := by decide +kernel
theorem i44_1 : xIns xg 44 1 = some (.istore_n 2) := by decide +kernel
theorem i44_2 : xIns xg 44 2 = some (.iconst 0) := by decide +kernel
theorem i44_3 : xIns xg 44 3 = some (.istore_n 3) := by decide +kernel
def d_x4_behindNames_4 (N : Nat)  (k4 : St → Int → Int → Option Rs) (s : St) (x2 : Int) (x3 : Int) : Option Rs :=
  (if 8 < (w32 x3) then some (s, (-21)) else (if (w32 x2) < 0 then some (s, (-23)) else (if (w32 x2) < (w32 ((192 : Nat) : Int)) then if 0 ≤ (w32 x2) ∧ (w32 x2) < ((192 : Nat) : Int) then (if (w32 (s 19 (Int.toNat (w32 x2)))) = 0 then if 0 ≤ (w32 x2) ∧ (w32 x2) < ((192 : Nat) : Int) then bd (s 21 (Int.toNat (w32 x2))) fun v1 => (if (w32 v1) < 0 then some (s, (-23)) else (if (w32 v1) < 8 then if 0 ≤ (w32 v1) ∧ (w32 v1) < ((8 : Nat) : Int) then (if (w32 (s 18 (Int.toNat (w32 v1)))) = 0 then some (s, (-23)) else bd (v1 * 24) fun v2 => bd (x3 + 1) fun v3 => k4 s v2 v3) else none else some (s, (-23)))) else none else some (s, x2)) else none else some (s, (-23)))))
def d_x4_behindNames_4L (N : Nat)  : Nat → St → Int → Int → Option Rs
  | 0 => fun _ _ _ => none
  | n + 1 => d_x4_behindNames_4 N  (d_x4_behindNames_4L N  n)
set_option maxHeartbeats 4000000 in
set_option maxRecDepth 100000 in
theorem c_x4_behindNames_4 {sc : xS} {d : Nat} {R : Rs} (N : Nat)  (hd : 0 ≤ d)   (k4 : St → Int → Int → Option Rs) (hk4 : ∀ (s : St) (x2 : Int) (x3 : Int), k4 s x2 x3 = some R → vT sc d 44 4 [(0, .ref 50), (2, vi x2), (3, vi x3)] [] s (fun r => r = qI R)) (s : St) (x2 : Int) (x3 : Int) : d_x4_behindNames_4 N  k4 s x2 x3 = some R → vT sc d 44 4 [(0, .ref 50), (2, vi x2), (3, vi x3)] [] s (fun r => r = qI R) := by
  unfold d_x4_behindNames_4
  refine vLin 5 i44_4 rfl rfl ?_
  refine vKb 7 i44_5 (by decide) rfl ?_
  refine vCgt 94 10 rfl (show w32 8 = 8 from rfl) i44_7 rfl rfl ?_ ?_
  · refine vKb 96 i44_94 (by decide) rfl ?_
    exact vRi i44_96 m44 rfl
  · refine vLin 11 i44_10 rfl rfl ?_
    refine vZlt 26 14 rfl i44_11 rfl rfl ?_ ?_
    · refine vKb 28 i44_26 (by decide) rfl ?_
      exact vRi i44_28 m44 rfl
    · refine vLin 15 i44_14 rfl rfl ?_
      refine vLan 16 i44_15 rfl rfl ?_
      refine vGetC 19 i44_16 f44_22 sh_50 rfl rfl ?_
      refine vGetC 22 i44_19 f44_69 sh_17 rfl rfl ?_
      refine vAln 23 (Or.inl rfl) i44_22 sh_19 rfl ?_
      refine vClt 29 26 rfl rfl i44_23 rfl rfl ?_ ?_
      · refine vLan 30 i44_29 rfl rfl ?_
        refine vGetC 33 i44_30 f44_22 sh_50 rfl rfl ?_
        refine vGetC 36 i44_33 f44_69 sh_17 rfl rfl ?_
        refine vLin 37 i44_36 rfl rfl ?_
        refine vIal 38 rfl i44_37 sh_19 rfl ?_
        refine vZeq 43 41 rfl i44_38 rfl rfl ?_ ?_
        · refine vLan 44 i44_43 rfl rfl ?_
          refine vGetC 47 i44_44 f44_22 sh_50 rfl rfl ?_
          refine vGetC 50 i44_47 f44_94 sh_17 rfl rfl ?_
          refine vLin 51 i44_50 rfl rfl ?_
          refine vIal 52 rfl i44_51 sh_21 rfl ?_
          refine vSi 54 (fun v1 => [(4, vi v1), (0, .ref 50), (2, vi x2), (3, vi x3)]) i44_52 m44 (by decide) (fun v1 => (rfl : xst1 [(0, .ref 50), (2, vi x2), (3, vi x3)] 4 (vi v1) = [(4, vi v1), (0, .ref 50), (2, vi x2), (3, vi x3)])) rfl (fun v1 => ?_)
          refine vLi 56 i44_54 rfl rfl ?_
          refine vZlt 79 59 rfl i44_56 rfl rfl ?_ ?_
          · refine vKb 81 i44_79 (by decide) rfl ?_
            exact vRi i44_81 m44 rfl
          · refine vLi 61 i44_59 rfl rfl ?_
            refine vKb 63 i44_61 (by decide) rfl ?_
            refine vCge 79 66 rfl (show w32 8 = 8 from rfl) i44_63 rfl rfl ?_ ?_
            · refine vKb 81 i44_79 (by decide) rfl ?_
              exact vRi i44_81 m44 rfl
            · refine vLan 67 i44_66 rfl rfl ?_
              refine vGetC 70 i44_67 f44_22 sh_50 rfl rfl ?_
              refine vGetC 73 i44_70 f44_96 sh_17 rfl rfl ?_
              refine vLi 75 i44_73 rfl rfl ?_
              refine vIal 76 rfl i44_75 sh_18 rfl ?_
              refine vZne 82 79 rfl i44_76 rfl rfl ?_ ?_
              · refine vLi 84 i44_82 rfl rfl ?_
                refine vKb 86 i44_84 (by decide) rfl ?_
                refine vImul 87 i44_86 rfl ?_
                refine vSin 88 (fun v2 => [(2, vi v2), (4, vi v1), (0, .ref 50), (3, vi x3)]) i44_87 m44 (by decide) (fun v2 => (rfl : xst1 [(4, vi v1), (0, .ref 50), (2, vi x2), (3, vi x3)] 2 (vi v2) = [(2, vi v2), (4, vi v1), (0, .ref 50), (3, vi x3)])) rfl (fun v2 => ?_)
                refine vInc 91 (fun v3 => [(3, vi v3), (2, vi v2), (4, vi v1), (0, .ref 50)]) i44_88 m44 (by decide) rfl (fun _ => rfl) rfl (fun v3 => ?_)
                refine vGo 4 i44_91 rfl ?_
                exact fun hD => tLc [(0, .ref 50), (2, vi v2), (3, vi v3)] (xNdk [0, 2, 3] rfl (by decide)) (xNdk [3, 2, 4, 0] rfl (by decide)) ⟨rfl, rfl, rfl, trivial⟩ (hk4 s v2 v3 hD)
              · refine vKb 81 i44_79 (by decide) rfl ?_
                exact vRi i44_81 m44 rfl
        · refine vLin 42 i44_41 rfl rfl ?_
          exact vRi i44_42 m44 rfl
      · refine vKb 28 i44_26 (by decide) rfl ?_
        exact vRi i44_28 m44 rfl
theorem c_x4_behindNames_4L {sc : xS} {d : Nat} {R : Rs} (N : Nat)  (hd : 0 ≤ d)   : ∀ (n : Nat) (s : St) (x2 : Int) (x3 : Int), d_x4_behindNames_4L N  n s x2 x3 = some R → vT sc d 44 4 [(0, .ref 50), (2, vi x2), (3, vi x3)] [] s (fun r => r = qI R) := by
  intro n
  induction n with
  | zero => intro s x2 x3 hD; cases hD
  | succ n ih => intro s x2 x3 hD; exact c_x4_behindNames_4 N  hd  _ ih s x2 x3 hD
def d_x4_behindNames (N : Nat)  (s : St) (a0 : Int) : Option Rs :=
  d_x4_behindNames_4L N  N s a0 0
set_option maxHeartbeats 4000000 in
set_option maxRecDepth 100000 in
theorem c_x4_behindNames {sc : xS} {d : Nat} {R : Rs} (N : Nat)  (hd : 0 ≤ d)   (s : St) (a0 : Int) : d_x4_behindNames N  s a0 = some R → vT sc d 44 0 [(0, .ref 50), (1, vi a0)] [] s (fun r => r = qI R) := by
  unfold d_x4_behindNames
  refine vLin 1 i44_0 rfl rfl ?_
  refine vSin0 2 [(2, vi a0), (0, .ref 50), (1, vi a0)] i44_1 m44 (by decide) rfl rfl ?_
  refine vK 3 i44_2 rfl ?_
  refine vSin0 4 [(3, vi 0), (2, vi a0), (0, .ref 50), (1, vi a0)] i44_3 m44 (by decide) rfl rfl ?_
  exact fun hD => tLc [(0, .ref 50), (2, vi a0), (3, vi 0)] (xNdk [0, 2, 3] rfl (by decide)) (xNdk [3, 2, 0, 1] rfl (by decide)) ⟨rfl, rfl, rfl, trivial⟩ (c_x4_behindNames_4L N  hd  N s a0 0 hD)
theorem f40_26 : xFld xg 40 26 = some (3, 1) := by decide +kernel
theorem f40_41 : xFld xg 40 41 = some (5, 0) := by decide +kernel
theorem f40_80 : xFld xg 40 80 = some (5, 6) := by decide +kernel
theorem f40_87 : xFld xg 40 87 = some (5, 7) := by decide +kernel
theorem f40_18 : xFld xg 40 18 = some (3, 4) := by decide +kernel
theorem f40_91 : xFld xg 40 91 = some (5, 1) := by decide +kernel
theorem i40_160 : xIns xg 40 160 = some (.aload_n 0) := by decide +kernel
theorem i40_161 : xIns xg 40 161 = some (.aload_n 0) := by decide +kernel
theorem i40_162 : xIns xg 40 162 = some (.getfield 26) := by decide +kernel
theorem i40_165 : xIns xg 40 165 = some (.getfield 87) := by decide +kernel
theorem i40_168 : xIns xg 40 168 = some (.iload 4) := by decide +kernel
theorem i40_170 : xIns xg 40 170 = some (.laload) := by decide +kernel
theorem i40_171 : xIns xg 40 171 = some (.putfield 18) := by decide +kernel
theorem p40_18 : xPut xg 40 18 = some (3, 4, .long) := by decide +kernel
theorem i40_174 : xIns xg 40 174 = some (.aload_n 0) := by decide +kernel
theorem i40_175 : xIns xg 40 175 = some (.getfield 26) := by decide +kernel
theorem i40_178 : xIns xg 40 178 = some (.getfield 80) := by decide +kernel
theorem i40_181 : xIns xg 40 181 = some (.iload 4) := by decide +kernel
theorem i40_183 : xIns xg 40 183 = some (.baload) := by decide +kernel
theorem i40_184 : xIns xg 40 184 = some (.ireturn) := by decide +kernel
theorem i40_0 : xIns xg 40 0 = some (.aload_n 0) := by decide +kernel
theorem i40_1 : xIns xg 40 1 = some (.iload_n 1) := by decide +kernel
theorem i40_2 : xIns xg 40 2 = some (.invokevirtual 37) := by decide +kernel
theorem i40_5 : xIns xg 40 5 = some (.istore_n 3) := by decide +kernel
theorem i40_6 : xIns xg 40 6 = some (.iload_n 3) := by decide +kernel
theorem i40_7 : xIns xg 40 7 = some (.ifCond .ge 5) := by decide +kernel
theorem i40_12 : xIns xg 40 12 = some (.iload_n 2) := by decide +kernel
theorem i40_13 : xIns xg 40 13 = some (.ifCond .lt 16) := by decide +kernel
theorem i40_29 : xIns xg 40 29 = some (.bipush (-24)) := by decide +kernel
theorem i40_31 : xIns xg 40 31 = some (.ireturn) := by decide +kernel
theorem i40_16 : xIns xg 40 16 = some (.iload_n 2) := by decide +kernel
theorem i40_17 : xIns xg 40 17 = some (.aload_n 0) := by decide +kernel
theorem i40_18 : xIns xg 40 18 = some (.getfield 26) := by decide +kernel
theorem i40_21 : xIns xg 40 21 = some (.getfield 41) := by decide +kernel
theorem i40_24 : xIns xg 40 24 = some (.iload_n 3) := by decide +kernel
theorem i40_25 : xIns xg 40 25 = some (.iaload) := by decide +kernel
theorem i40_26 : xIns xg 40 26 = some (.if_icmp .lt 6) := by decide +kernel
theorem i40_32 : xIns xg 40 32 = some (.iload_n 3) := by decide +kernel
theorem i40_33 : xIns xg 40 33 = some (.bipush 64) := by decide +kernel
theorem i40_35 : xIns xg 40 35 = some (.imul) := by decide +kernel
theorem i40_36 : xIns xg 40 36 = some (.iload_n 2) := by decide +kernel
theorem i40_37 : xIns xg 40 37 = some (.iadd) := by decide +kernel
theorem i40_38 : xIns xg 40 38 = some (.istore 4) := by decide +kernel
theorem i40_40 : xIns xg 40 40 = some (.aload_n 0) := by decide +kernel
theorem i40_41 : xIns xg 40 41 = some (.getfield 26) := by decide +kernel
theorem i40_44 : xIns xg 40 44 = some (.getfield 80) := by decide +kernel
theorem i40_47 : xIns xg 40 47 = some (.iload 4) := by decide +kernel
theorem i40_49 : xIns xg 40 49 = some (.baload) := by decide +kernel
theorem i40_50 : xIns xg 40 50 = some (.iconst 2) := by decide +kernel
theorem i40_51 : xIns xg 40 51 = some (.if_icmp .ne 6) := by decide +kernel
theorem i40_57 : xIns xg 40 57 = some (.aload_n 0) := by decide +kernel
theorem i40_58 : xIns xg 40 58 = some (.getfield 26) := by decide +kernel
theorem i40_61 : xIns xg 40 61 = some (.getfield 80) := by decide +kernel
theorem i40_64 : xIns xg 40 64 = some (.iload 4) := by decide +kernel
theorem i40_66 : xIns xg 40 66 = some (.baload) := by decide +kernel
theorem i40_67 : xIns xg 40 67 = some (.ifCond .ne 93) := by decide +kernel
theorem i40_70 : xIns xg 40 70 = some (.aload_n 0) := by decide +kernel
theorem i40_71 : xIns xg 40 71 = some (.invokevirtual 54) := by decide +kernel
theorem i40_74 : xIns xg 40 74 = some (.ifCond .ne 6) := by decide +kernel
theorem i40_80 : xIns xg 40 80 = some (.aload_n 0) := by decide +kernel
theorem i40_81 : xIns xg 40 81 = some (.getfield 26) := by decide +kernel
theorem i40_84 : xIns xg 40 84 = some (.getfield 80) := by decide +kernel
theorem i40_87 : xIns xg 40 87 = some (.iload 4) := by decide +kernel
theorem i40_89 : xIns xg 40 89 = some (.iconst 2) := by decide +kernel
theorem i40_90 : xIns xg 40 90 = some (.bastore) := by decide +kernel
theorem i40_91 : xIns xg 40 91 = some (.aload_n 0) := by decide +kernel
theorem i40_92 : xIns xg 40 92 = some (.iload_n 3) := by decide +kernel
theorem i40_93 : xIns xg 40 93 = some (.iload_n 2) := by decide +kernel
theorem i40_94 : xIns xg 40 94 = some (.invokevirtual 84) := by decide +kernel
theorem i40_97 : xIns xg 40 97 = some (.istore 5) := by decide +kernel
theorem i40_99 : xIns xg 40 99 = some (.aload_n 0) := by decide +kernel
theorem i40_100 : xIns xg 40 100 = some (.getfield 26) := by decide +kernel
theorem i40_103 : xIns xg 40 103 = some (.getfield 80) := by decide +kernel
theorem i40_106 : xIns xg 40 106 = some (.iload 4) := by decide +kernel
theorem i40_108 : xIns xg 40 108 = some (.iconst 0) := by decide +kernel
theorem i40_109 : xIns xg 40 109 = some (.bastore) := by decide +kernel
theorem i40_110 : xIns xg 40 110 = some (.iload 5) := by decide +kernel
theorem i40_112 : xIns xg 40 112 = some (.bipush (-6)) := by decide +kernel
theorem i40_114 : xIns xg 40 114 = some (.if_icmp .ne 6) := by decide +kernel
theorem i40_120 : xIns xg 40 120 = some (.aload_n 0) := by decide +kernel
theorem i40_121 : xIns xg 40 121 = some (.getfield 26) := by decide +kernel
theorem i40_124 : xIns xg 40 124 = some (.getfield 80) := by decide +kernel
theorem i40_127 : xIns xg 40 127 = some (.iload 4) := by decide +kernel
theorem i40_129 : xIns xg 40 129 = some (.iload 5) := by decide +kernel
theorem i40_131 : xIns xg 40 131 = some (.i2b) := by decide +kernel
theorem i40_132 : xIns xg 40 132 = some (.bastore) := by decide +kernel
theorem i40_133 : xIns xg 40 133 = some (.aload_n 0) := by decide +kernel
theorem i40_134 : xIns xg 40 134 = some (.getfield 26) := by decide +kernel
theorem i40_137 : xIns xg 40 137 = some (.getfield 87) := by decide +kernel
theorem i40_140 : xIns xg 40 140 = some (.iload 4) := by decide +kernel
theorem i40_142 : xIns xg 40 142 = some (.aload_n 0) := by decide +kernel
theorem i40_143 : xIns xg 40 143 = some (.getfield 18) := by decide +kernel
theorem i40_146 : xIns xg 40 146 = some (.lastore) := by decide +kernel
theorem i40_147 : xIns xg 40 147 = some (.aload_n 0) := by decide +kernel
theorem i40_148 : xIns xg 40 148 = some (.getfield 26) := by decide +kernel
theorem i40_151 : xIns xg 40 151 = some (.getfield 91) := by decide +kernel
theorem i40_154 : xIns xg 40 154 = some (.iload_n 3) := by decide +kernel
theorem i40_155 : xIns xg 40 155 = some (.dup2) := by decide +kernel
theorem i40_156 : xIns xg 40 156 = some (.iaload) := by decide +kernel
theorem i40_157 : xIns xg 40 157 = some (.iconst 1) := by decide +kernel
theorem i40_158 : xIns xg 40 158 = some (.iadd) := by decide +kernel
theorem i40_159 : xIns xg 40 159 = some (.iastore) := by decide +kernel
theorem i40_117 : xIns xg 40 117 = some (.bipush (-6)) := by decide +kernel
theorem i40_119 : xIns xg 40 119 = some (.ireturn) := by decide +kernel
theorem i40_77 : xIns xg 40 77 = some (.bipush (-6)) := by decide +kernel
theorem i40_79 : xIns xg 40 79 = some (.ireturn) := by decide +kernel
theorem i40_54 : xIns xg 40 54 = some (.bipush (-21)) := by decide +kernel
theorem i40_56 : xIns xg 40 56 = some (.ireturn) := by decide +kernel
theorem i40_10 : xIns xg 40 10 = some (.iload_n 3) := by decide +kernel
theorem i40_11 : xIns xg 40 11 = some (.ireturn) := by decide +kernel
def d_x4_askHead_160 (N : Nat) (r_askPlace : St → Int → Int → Option Rs) (r_askHead : St → Int → Int → Option Rs) (t : Nat)  (s : St) (x4 : Int) : Option Rs :=
  if s 50 1 = (t : Int) then if 0 ≤ (w32 x4) ∧ (w32 x4) < ((12288 : Nat) : Int) then bd (up s 50 4 (s (t + 8) (Int.toNat (w32 x4)))) fun s1 => if s1 50 1 = (t : Int) then if 0 ≤ (w32 x4) ∧ (w32 x4) < ((12288 : Nat) : Int) then some (s1, (s1 (t + 7) (Int.toNat (w32 x4)))) else none else none else none else none
set_option maxHeartbeats 4000000 in
set_option maxRecDepth 100000 in
theorem c_x4_askHead_160 {sc : xS} {d : Nat} {R : Rs} (N : Nat) (r_askPlace : St → Int → Int → Option Rs) (r_askHead : St → Int → Int → Option Rs) (t : Nat) (e : Nat) (hr_askPlace : ∀ d, e ≤ d → ∀ (s : St) (a0 a1 : Int) (R : Rs), r_askPlace s a0 a1 = some R → vT sc d 41 0 [(0, .ref 50), (1, vi a0), (2, vi a1)] [] s (fun r => r = qI R)) (hr_askHead : ∀ d, e ≤ d → ∀ (s : St) (a0 a1 : Int) (R : Rs), r_askHead s a0 a1 = some R → vT sc d 40 0 [(0, .ref 50), (1, vi a0), (2, vi a1)] [] s (fun r => r = qI R)) (H : isTold t) (hd : e + 2 ≤ d)   (s : St) (x4 : Int) : d_x4_askHead_160 N r_askPlace r_askHead t  s x4 = some R → vT sc d 40 160 [(0, .ref 50), (4, vi x4)] [] s (fun r => r = qI R) := by
  obtain ⟨d, rfl⟩ : ∃ d', d = d' + 1 := ⟨d - 1, by omega⟩
  unfold d_x4_askHead_160
  refine vLan 161 i40_160 rfl rfl ?_
  refine vLan 162 i40_161 rfl rfl ?_
  refine vGetR 165 i40_162 f40_26 sh_50 rfl rfl ?_
  refine vGetC 168 i40_165 f40_87 (told_0 H) rfl rfl ?_
  refine vLi 170 i40_168 rfl rfl ?_
  refine vLal 171 rfl i40_170 (told_8 H) rfl ?_
  refine vPutL 174 i40_171 p40_18 sh_50 rfl rfl (fun s1 => ?_)
  refine vLan 175 i40_174 rfl rfl ?_
  refine vGetR 178 i40_175 f40_26 sh_50 rfl rfl ?_
  refine vGetC 181 i40_178 f40_80 (told_0 H) rfl rfl ?_
  refine vLi 183 i40_181 rfl rfl ?_
  refine vBal 184 rfl i40_183 (told_7 H) rfl ?_
  exact vRi i40_184 m40 rfl
def d_x4_askHead (N : Nat) (r_askPlace : St → Int → Int → Option Rs) (r_askHead : St → Int → Int → Option Rs) (t : Nat)  (s : St) (a0 : Int) (a1 : Int) : Option Rs :=
  bI (d_x4_behindNames N  s a0) fun s2 v3 => (if (w32 v3) < 0 then some (s2, v3) else (if (w32 a1) < 0 then some (s2, (-24)) else if s2 50 1 = (t : Int) then if 0 ≤ (w32 v3) ∧ (w32 v3) < ((192 : Nat) : Int) then (if (w32 a1) < (w32 (s2 (t + 1) (Int.toNat (w32 v3)))) then bd ((v3 * 64) + a1) fun v4 => if s2 50 1 = (t : Int) then if 0 ≤ (w32 v4) ∧ (w32 v4) < ((12288 : Nat) : Int) then (if (w32 (s2 (t + 7) (Int.toNat (w32 v4)))) = 2 then some (s2, (-21)) else if s2 50 1 = (t : Int) then if 0 ≤ (w32 v4) ∧ (w32 v4) < ((12288 : Nat) : Int) then (if (w32 (s2 (t + 7) (Int.toNat (w32 v4)))) = 0 then bI (d_x4_beginsRun N  s2 ) fun s5 v6 => (if (w32 v6) = 0 then some (s5, (-6)) else if s5 50 1 = (t : Int) then if 0 ≤ (w32 v4) ∧ (w32 v4) < ((12288 : Nat) : Int) then bd (up s5 (t + 7) (Int.toNat (w32 v4)) (w8 2)) fun s7 => bI (d_x4_tellHead N r_askPlace r_askHead t s7 v3 a1) fun s8 v9 => if s8 50 1 = (t : Int) then if 0 ≤ (w32 v4) ∧ (w32 v4) < ((12288 : Nat) : Int) then bd (up s8 (t + 7) (Int.toNat (w32 v4)) (w8 0)) fun s10 => (if (w32 v9) = (-6) then some (s10, (-6)) else if s10 50 1 = (t : Int) then if 0 ≤ (w32 v4) ∧ (w32 v4) < ((12288 : Nat) : Int) then bd (up s10 (t + 7) (Int.toNat (w32 v4)) (w8 (w8 v9))) fun s11 => if s11 50 1 = (t : Int) then if 0 ≤ (w32 v4) ∧ (w32 v4) < ((12288 : Nat) : Int) then bd (up s11 (t + 8) (Int.toNat (w32 v4)) (s11 50 4)) fun s12 => if s12 50 1 = (t : Int) then if 0 ≤ (w32 v3) ∧ (w32 v3) < ((192 : Nat) : Int) then if 0 ≤ (w32 v3) ∧ (w32 v3) < ((192 : Nat) : Int) then bd (up s12 (t + 2) (Int.toNat (w32 v3)) ((s12 (t + 2) (Int.toNat (w32 v3))) + 1)) fun s13 => d_x4_askHead_160 N r_askPlace r_askHead t  s13 v4 else none else none else none else none else none else none else none) else none else none else none else none) else d_x4_askHead_160 N r_askPlace r_askHead t  s2 v4) else none else none) else none else none else some (s2, (-24))) else none else none))
set_option maxHeartbeats 4000000 in
set_option maxRecDepth 100000 in
theorem c_x4_askHead {sc : xS} {d : Nat} {R : Rs} (N : Nat) (r_askPlace : St → Int → Int → Option Rs) (r_askHead : St → Int → Int → Option Rs) (t : Nat) (e : Nat) (hr_askPlace : ∀ d, e ≤ d → ∀ (s : St) (a0 a1 : Int) (R : Rs), r_askPlace s a0 a1 = some R → vT sc d 41 0 [(0, .ref 50), (1, vi a0), (2, vi a1)] [] s (fun r => r = qI R)) (hr_askHead : ∀ d, e ≤ d → ∀ (s : St) (a0 a1 : Int) (R : Rs), r_askHead s a0 a1 = some R → vT sc d 40 0 [(0, .ref 50), (1, vi a0), (2, vi a1)] [] s (fun r => r = qI R)) (H : isTold t) (hd : e + 2 ≤ d)   (s : St) (a0 : Int) (a1 : Int) : d_x4_askHead N r_askPlace r_askHead t  s a0 a1 = some R → vT sc d 40 0 [(0, .ref 50), (1, vi a0), (2, vi a1)] [] s (fun r => r = qI R) := by
  obtain ⟨d, rfl⟩ : ∃ d', d = d' + 1 := ⟨d - 1, by omega⟩
  unfold d_x4_askHead
  refine vLan 1 i40_0 rfl rfl ?_
  refine vLin 2 i40_1 rfl rfl ?_
  refine vCallI 5 [.ref 50, vi a0] [] [(0, .ref 50), (1, vi a0)] i40_2 rfl (xlk0 l40_37) (Or.inl rfl) m44 rfl rfl (Nat.le_of_ble_eq_true rfl) (Nat.le_of_ble_eq_true rfl) (Nat.le_of_ble_eq_true rfl) (xh0 sh_50 (by decide)) rfl rfl (fun R1 => c_x4_behindNames N   (by omega) s a0) (fun s2 v3 => ?_)
  refine vSin0 6 [(3, vi v3), (0, .ref 50), (1, vi a0), (2, vi a1)] i40_5 m40 (by decide) rfl rfl ?_
  refine vLin 7 i40_6 rfl rfl ?_
  refine vZge 12 10 rfl i40_7 rfl rfl ?_ ?_
  · refine vLin 13 i40_12 rfl rfl ?_
    refine vZlt 29 16 rfl i40_13 rfl rfl ?_ ?_
    · refine vKb 31 i40_29 (by decide) rfl ?_
      exact vRi i40_31 m40 rfl
    · refine vLin 17 i40_16 rfl rfl ?_
      refine vLan 18 i40_17 rfl rfl ?_
      refine vGetR 21 i40_18 f40_26 sh_50 rfl rfl ?_
      refine vGetC 24 i40_21 f40_41 (told_0 H) rfl rfl ?_
      refine vLin 25 i40_24 rfl rfl ?_
      refine vIal 26 rfl i40_25 (told_1 H) rfl ?_
      refine vClt 32 29 rfl rfl i40_26 rfl rfl ?_ ?_
      · refine vLin 33 i40_32 rfl rfl ?_
        refine vKb 35 i40_33 (by decide) rfl ?_
        refine vImul 36 i40_35 rfl ?_
        refine vLin 37 i40_36 rfl rfl ?_
        refine vIadd 38 i40_37 rfl ?_
        refine vSi 40 (fun v4 => [(4, vi v4), (3, vi v3), (0, .ref 50), (1, vi a0), (2, vi a1)]) i40_38 m40 (by decide) (fun v4 => (rfl : xst1 [(3, vi v3), (0, .ref 50), (1, vi a0), (2, vi a1)] 4 (vi v4) = [(4, vi v4), (3, vi v3), (0, .ref 50), (1, vi a0), (2, vi a1)])) rfl (fun v4 => ?_)
        refine vLan 41 i40_40 rfl rfl ?_
        refine vGetR 44 i40_41 f40_26 sh_50 rfl rfl ?_
        refine vGetC 47 i40_44 f40_80 (told_0 H) rfl rfl ?_
        refine vLi 49 i40_47 rfl rfl ?_
        refine vBal 50 rfl i40_49 (told_7 H) rfl ?_
        refine vK 51 i40_50 rfl ?_
        refine vCne 57 54 rfl (show w32 2 = 2 from rfl) i40_51 rfl rfl ?_ ?_
        · refine vLan 58 i40_57 rfl rfl ?_
          refine vGetR 61 i40_58 f40_26 sh_50 rfl rfl ?_
          refine vGetC 64 i40_61 f40_80 (told_0 H) rfl rfl ?_
          refine vLi 66 i40_64 rfl rfl ?_
          refine vBal 67 rfl i40_66 (told_7 H) rfl ?_
          refine vZne 160 70 rfl i40_67 rfl rfl ?_ ?_
          · exact fun hD => tLc [(0, .ref 50), (4, vi v4)] (xNdk [0, 4] rfl (by decide)) (xNdk [4, 3, 0, 1, 2] rfl (by decide)) ⟨rfl, rfl, trivial⟩ (c_x4_askHead_160 N r_askPlace r_askHead t e hr_askPlace hr_askHead H hd  s2 v4 hD)
          · refine vLan 71 i40_70 rfl rfl ?_
            refine vCallI 74 [.ref 50] [] [(0, .ref 50)] i40_71 rfl (xlk0 l40_54) (Or.inl rfl) m43 rfl rfl (Nat.le_of_ble_eq_true rfl) (Nat.le_of_ble_eq_true rfl) (Nat.le_of_ble_eq_true rfl) (xh0 sh_50 (by decide)) rfl rfl (fun R1 => c_x4_beginsRun N   (by omega) s2 ) (fun s5 v6 => ?_)
            refine vZne 80 77 rfl i40_74 rfl rfl ?_ ?_
            · refine vLan 81 i40_80 rfl rfl ?_
              refine vGetR 84 i40_81 f40_26 sh_50 rfl rfl ?_
              refine vGetC 87 i40_84 f40_80 (told_0 H) rfl rfl ?_
              refine vLi 89 i40_87 rfl rfl ?_
              refine vK 90 i40_89 rfl ?_
              refine vBas 91 rfl i40_90 (told_7 H) rfl (fun s7 => ?_)
              refine vLan 92 i40_91 rfl rfl ?_
              refine vLin 93 i40_92 rfl rfl ?_
              refine vLin 94 i40_93 rfl rfl ?_
              refine vCallI 97 [.ref 50, vi v3, vi a1] [] [(0, .ref 50), (1, vi v3), (2, vi a1)] i40_94 rfl (xlk0 l40_84) (Or.inl rfl) m58 rfl rfl (Nat.le_of_ble_eq_true rfl) (Nat.le_of_ble_eq_true rfl) (Nat.le_of_ble_eq_true rfl) (xh0 sh_50 (by decide)) rfl rfl (fun R1 => c_x4_tellHead N r_askPlace r_askHead t e hr_askPlace hr_askHead H (by omega) s7 v3 a1) (fun s8 v9 => ?_)
              refine vSi0 99 [(5, vi v9), (4, vi v4), (3, vi v3), (0, .ref 50), (1, vi a0), (2, vi a1)] i40_97 m40 (by decide) rfl rfl ?_
              refine vLan 100 i40_99 rfl rfl ?_
              refine vGetR 103 i40_100 f40_26 sh_50 rfl rfl ?_
              refine vGetC 106 i40_103 f40_80 (told_0 H) rfl rfl ?_
              refine vLi 108 i40_106 rfl rfl ?_
              refine vK 109 i40_108 rfl ?_
              refine vBas 110 rfl i40_109 (told_7 H) rfl (fun s10 => ?_)
              refine vLi 112 i40_110 rfl rfl ?_
              refine vKb 114 i40_112 (by decide) rfl ?_
              refine vCne 120 117 rfl (show w32 (-6) = (-6) from rfl) i40_114 rfl rfl ?_ ?_
              · refine vLan 121 i40_120 rfl rfl ?_
                refine vGetR 124 i40_121 f40_26 sh_50 rfl rfl ?_
                refine vGetC 127 i40_124 f40_80 (told_0 H) rfl rfl ?_
                refine vLi 129 i40_127 rfl rfl ?_
                refine vLi 131 i40_129 rfl rfl ?_
                refine vI2b 132 i40_131 rfl ?_
                refine vBas 133 rfl i40_132 (told_7 H) rfl (fun s11 => ?_)
                refine vLan 134 i40_133 rfl rfl ?_
                refine vGetR 137 i40_134 f40_26 sh_50 rfl rfl ?_
                refine vGetC 140 i40_137 f40_87 (told_0 H) rfl rfl ?_
                refine vLi 142 i40_140 rfl rfl ?_
                refine vLan 143 i40_142 rfl rfl ?_
                refine vGetL 146 i40_143 f40_18 sh_50 rfl rfl ?_
                refine vLas 147 rfl i40_146 (told_8 H) rfl (fun s12 => ?_)
                refine vLan 148 i40_147 rfl rfl ?_
                refine vGetR 151 i40_148 f40_26 sh_50 rfl rfl ?_
                refine vGetC 154 i40_151 f40_91 (told_0 H) rfl rfl ?_
                refine vLin 155 i40_154 rfl rfl ?_
                refine vD 156 i40_155 rfl rfl rfl ?_
                refine vIal 157 rfl i40_156 (told_2 H) rfl ?_
                refine vK 158 i40_157 rfl ?_
                refine vIadd 159 i40_158 rfl ?_
                refine vIas 160 rfl i40_159 (told_2 H) rfl (fun s13 => ?_)
                exact fun hD => tLc [(0, .ref 50), (4, vi v4)] (xNdk [0, 4] rfl (by decide)) (xNdk [5, 4, 3, 0, 1, 2] rfl (by decide)) ⟨rfl, rfl, trivial⟩ (c_x4_askHead_160 N r_askPlace r_askHead t e hr_askPlace hr_askHead H hd  s13 v4 hD)
              · refine vKb 119 i40_117 (by decide) rfl ?_
                exact vRi i40_119 m40 rfl
            · refine vKb 79 i40_77 (by decide) rfl ?_
              exact vRi i40_79 m40 rfl
        · refine vKb 56 i40_54 (by decide) rfl ?_
          exact vRi i40_56 m40 rfl
      · refine vKb 31 i40_29 (by decide) rfl ?_
        exact vRi i40_31 m40 rfl
  · refine vLin 11 i40_10 rfl rfl ?_
    exact vRi i40_11 m40 rfl
theorem f57_22 : xFld xg 57 22 = some (3, 0) := by decide +kernel
theorem f57_69 : xFld xg 57 69 = some (4, 1) := by decide +kernel
theorem i57_27 : xIns xg 57 27 = some (.iconst 1) := by decide +kernel
theorem i57_28 : xIns xg 57 28 = some (.goto 4) := by decide +kernel
theorem i57_32 : xIns xg 57 32 = some (.ireturn) := by decide +kernel
theorem m57 : (xMet xg 57).2.2 = (2, (some .boolean)) := by decide +kernel
theorem i57_0 : xIns xg 57 0 = some (.aload_n 0) := by decide +kernel
theorem i57_1 : xIns xg 57 1 = some (.getfield 22) := by decide +kernel
theorem i57_4 : xIns xg 57 4 = some (.getfield 69) := by decide +kernel
theorem i57_7 : xIns xg 57 7 = some (.iload_n 1) := by decide +kernel
theorem i57_8 : xIns xg 57 8 = some (.iaload) := by decide +kernel
theorem i57_9 : xIns xg 57 9 = some (.iconst 4) := by decide +kernel
theorem i57_10 : xIns xg 57 10 = some (.if_icmp .eq 17) := by decide +kernel
theorem i57_13 : xIns xg 57 13 = some (.aload_n 0) := by decide +kernel
theorem i57_14 : xIns xg 57 14 = some (.getfield 22) := by decide +kernel
theorem i57_17 : xIns xg 57 17 = some (.getfield 69) := by decide +kernel
theorem i57_20 : xIns xg 57 20 = some (.iload_n 1) := by decide +kernel
theorem i57_21 : xIns xg 57 21 = some (.iaload) := by decide +kernel
theorem i57_22 : xIns xg 57 22 = some (.bipush 11) := by decide +kernel
theorem i57_24 : xIns xg 57 24 = some (.if_icmp .ne 7) := by decide +kernel
theorem i57_31 : xIns xg 57 31 = some (.iconst 0) := by decide +kernel
def d_x4_seeks_27 (N : Nat)  (s : St)  : Option Rs :=
  some (s, 1)
set_option maxHeartbeats 4000000 in
set_option maxRecDepth 100000 in
theorem c_x4_seeks_27 {sc : xS} {d : Nat} {R : Rs} (N : Nat)  (hd : 0 ≤ d)   (s : St)  : d_x4_seeks_27 N  s  = some R → vT sc d 57 27 [] [] s (fun r => r = qI R) := by
  unfold d_x4_seeks_27
  refine vK 28 i57_27 rfl ?_
  refine vGo 32 i57_28 rfl ?_
  exact vRi i57_32 m57 (by decide)
def d_x4_seeks (N : Nat)  (s : St) (a0 : Int) : Option Rs :=
  if 0 ≤ (w32 a0) ∧ (w32 a0) < ((192 : Nat) : Int) then (if (w32 (s 19 (Int.toNat (w32 a0)))) = 4 then d_x4_seeks_27 N  s  else if 0 ≤ (w32 a0) ∧ (w32 a0) < ((192 : Nat) : Int) then (if (w32 (s 19 (Int.toNat (w32 a0)))) = 11 then d_x4_seeks_27 N  s  else some (s, 0)) else none) else none
set_option maxHeartbeats 4000000 in
set_option maxRecDepth 100000 in
theorem c_x4_seeks {sc : xS} {d : Nat} {R : Rs} (N : Nat)  (hd : 0 ≤ d)   (s : St) (a0 : Int) : d_x4_seeks N  s a0 = some R → vT sc d 57 0 [(0, .ref 50), (1, vi a0)] [] s (fun r => r = qI R) := by
  unfold d_x4_seeks
  refine vLan 1 i57_0 rfl rfl ?_
  refine vGetC 4 i57_1 f57_22 sh_50 rfl rfl ?_
  refine vGetC 7 i57_4 f57_69 sh_17 rfl rfl ?_
  refine vLin 8 i57_7 rfl rfl ?_
  refine vIal 9 rfl i57_8 sh_19 rfl ?_
  refine vK 10 i57_9 rfl ?_
  refine vCeq 27 13 rfl (show w32 4 = 4 from rfl) i57_10 rfl rfl ?_ ?_
  · exact fun hD => tLc [] (xNdk [] rfl (by decide)) (xNdk [0, 1] rfl (by decide)) trivial (c_x4_seeks_27 N  hd  s  hD)
  · refine vLan 14 i57_13 rfl rfl ?_
    refine vGetC 17 i57_14 f57_22 sh_50 rfl rfl ?_
    refine vGetC 20 i57_17 f57_69 sh_17 rfl rfl ?_
    refine vLin 21 i57_20 rfl rfl ?_
    refine vIal 22 rfl i57_21 sh_19 rfl ?_
    refine vKb 24 i57_22 (by decide) rfl ?_
    refine vCne 31 27 rfl (show w32 11 = 11 from rfl) i57_24 rfl rfl ?_ ?_
    · refine vK 32 i57_31 rfl ?_
      exact vRi i57_32 m57 (by decide)
    · exact fun hD => tLc [] (xNdk [] rfl (by decide)) (xNdk [0, 1] rfl (by decide)) trivial (c_x4_seeks_27 N  hd  s  hD)
theorem f41_26 : xFld xg 41 26 = some (3, 1) := by decide +kernel
theorem f41_41 : xFld xg 41 41 = some (5, 0) := by decide +kernel
theorem f41_47 : xFld xg 41 47 = some (5, 2) := by decide +kernel
theorem f41_50 : xFld xg 41 50 = some (5, 3) := by decide +kernel
theorem f41_22 : xFld xg 41 22 = some (3, 0) := by decide +kernel
theorem f41_69 : xFld xg 41 69 = some (4, 1) := by decide +kernel
theorem i41_212 : xIns xg 41 212 = some (.iload_n 2) := by decide +kernel
theorem i41_213 : xIns xg 41 213 = some (.aload_n 0) := by decide +kernel
theorem i41_214 : xIns xg 41 214 = some (.getfield 26) := by decide +kernel
theorem i41_217 : xIns xg 41 217 = some (.getfield 41) := by decide +kernel
theorem i41_220 : xIns xg 41 220 = some (.iload_n 3) := by decide +kernel
theorem i41_221 : xIns xg 41 221 = some (.iaload) := by decide +kernel
theorem i41_222 : xIns xg 41 222 = some (.if_icmp .ge 7) := by decide +kernel
theorem i41_229 : xIns xg 41 229 = some (.aload_n 0) := by decide +kernel
theorem i41_230 : xIns xg 41 230 = some (.getfield 26) := by decide +kernel
theorem i41_233 : xIns xg 41 233 = some (.getfield 47) := by decide +kernel
theorem i41_236 : xIns xg 41 236 = some (.iload_n 3) := by decide +kernel
theorem i41_237 : xIns xg 41 237 = some (.iaload) := by decide +kernel
theorem i41_238 : xIns xg 41 238 = some (.ireturn) := by decide +kernel
theorem i41_225 : xIns xg 41 225 = some (.iconst 1) := by decide +kernel
theorem i41_226 : xIns xg 41 226 = some (.goto 12) := by decide +kernel
theorem i41_206 : xIns xg 41 206 = some (.iinc 4 1) := by decide +kernel
theorem i41_209 : xIns xg 41 209 = some (.goto (-173)) := by decide +kernel
theorem i41_153 : xIns xg 41 153 = some (.aload_n 0) := by decide +kernel
theorem i41_154 : xIns xg 41 154 = some (.getfield 26) := by decide +kernel
theorem i41_157 : xIns xg 41 157 = some (.getfield 50) := by decide +kernel
theorem i41_160 : xIns xg 41 160 = some (.iload_n 3) := by decide +kernel
theorem i41_161 : xIns xg 41 161 = some (.iconst 0) := by decide +kernel
theorem i41_162 : xIns xg 41 162 = some (.bastore) := by decide +kernel
theorem i41_163 : xIns xg 41 163 = some (.iload 5) := by decide +kernel
theorem i41_165 : xIns xg 41 165 = some (.bipush (-6)) := by decide +kernel
theorem i41_167 : xIns xg 41 167 = some (.if_icmp .ne 6) := by decide +kernel
theorem i41_173 : xIns xg 41 173 = some (.iload 5) := by decide +kernel
theorem i41_175 : xIns xg 41 175 = some (.iconst 1) := by decide +kernel
theorem i41_176 : xIns xg 41 176 = some (.if_icmp .ne 19) := by decide +kernel
theorem i41_195 : xIns xg 41 195 = some (.aload_n 0) := by decide +kernel
theorem i41_196 : xIns xg 41 196 = some (.getfield 26) := by decide +kernel
theorem i41_199 : xIns xg 41 199 = some (.getfield 47) := by decide +kernel
theorem i41_202 : xIns xg 41 202 = some (.iload_n 3) := by decide +kernel
theorem i41_203 : xIns xg 41 203 = some (.iload 5) := by decide +kernel
theorem i41_205 : xIns xg 41 205 = some (.iastore) := by decide +kernel
theorem i41_179 : xIns xg 41 179 = some (.aload_n 0) := by decide +kernel
theorem i41_180 : xIns xg 41 180 = some (.getfield 26) := by decide +kernel
theorem i41_183 : xIns xg 41 183 = some (.getfield 41) := by decide +kernel
theorem i41_186 : xIns xg 41 186 = some (.iload_n 3) := by decide +kernel
theorem i41_187 : xIns xg 41 187 = some (.dup2) := by decide +kernel
theorem i41_188 : xIns xg 41 188 = some (.iaload) := by decide +kernel
theorem i41_189 : xIns xg 41 189 = some (.iconst 1) := by decide +kernel
theorem i41_190 : xIns xg 41 190 = some (.iadd) := by decide +kernel
theorem i41_191 : xIns xg 41 191 = some (.iastore) := by decide +kernel
theorem i41_192 : xIns xg 41 192 = some (.goto 14) := by decide +kernel
theorem i41_170 : xIns xg 41 170 = some (.bipush (-6)) := by decide +kernel
theorem i41_172 : xIns xg 41 172 = some (.ireturn) := by decide +kernel
theorem i41_36 : xIns xg 41 36 = some (.iload 4) := by decide +kernel
theorem i41_38 : xIns xg 41 38 = some (.iload_n 2) := by decide +kernel
theorem i41_39 : xIns xg 41 39 = some (.if_icmp .gt 173) := by decide +kernel
theorem i41_42 : xIns xg 41 42 = some (.aload_n 0) := by decide +kernel
theorem i41_43 : xIns xg 41 43 = some (.getfield 26) := by decide +kernel
theorem i41_46 : xIns xg 41 46 = some (.getfield 47) := by decide +kernel
theorem i41_49 : xIns xg 41 49 = some (.iload_n 3) := by decide +kernel
theorem i41_50 : xIns xg 41 50 = some (.iaload) := by decide +kernel
theorem i41_51 : xIns xg 41 51 = some (.iconst 1) := by decide +kernel
theorem i41_52 : xIns xg 41 52 = some (.if_icmp .ne 160) := by decide +kernel
theorem i41_55 : xIns xg 41 55 = some (.aload_n 0) := by decide +kernel
theorem i41_56 : xIns xg 41 56 = some (.getfield 26) := by decide +kernel
theorem i41_59 : xIns xg 41 59 = some (.getfield 50) := by decide +kernel
theorem i41_62 : xIns xg 41 62 = some (.iload_n 3) := by decide +kernel
theorem i41_63 : xIns xg 41 63 = some (.baload) := by decide +kernel
theorem i41_64 : xIns xg 41 64 = some (.ifCond .eq 6) := by decide +kernel
theorem i41_70 : xIns xg 41 70 = some (.aload_n 0) := by decide +kernel
theorem i41_71 : xIns xg 41 71 = some (.invokevirtual 54) := by decide +kernel
theorem i41_74 : xIns xg 41 74 = some (.ifCond .ne 6) := by decide +kernel
theorem i41_80 : xIns xg 41 80 = some (.aload_n 0) := by decide +kernel
theorem i41_81 : xIns xg 41 81 = some (.getfield 26) := by decide +kernel
theorem i41_84 : xIns xg 41 84 = some (.iload_n 3) := by decide +kernel
theorem i41_85 : xIns xg 41 85 = some (.invokevirtual 58) := by decide +kernel
theorem i41_88 : xIns xg 41 88 = some (.aload_n 0) := by decide +kernel
theorem i41_89 : xIns xg 41 89 = some (.getfield 26) := by decide +kernel
theorem i41_92 : xIns xg 41 92 = some (.getfield 50) := by decide +kernel
theorem i41_95 : xIns xg 41 95 = some (.iload_n 3) := by decide +kernel
theorem i41_96 : xIns xg 41 96 = some (.iconst 1) := by decide +kernel
theorem i41_97 : xIns xg 41 97 = some (.bastore) := by decide +kernel
theorem i41_98 : xIns xg 41 98 = some (.aload_n 0) := by decide +kernel
theorem i41_99 : xIns xg 41 99 = some (.iload_n 3) := by decide +kernel
theorem i41_100 : xIns xg 41 100 = some (.invokevirtual 62) := by decide +kernel
theorem i41_103 : xIns xg 41 103 = some (.ifCond .eq 15) := by decide +kernel
theorem i41_118 : xIns xg 41 118 = some (.aload_n 0) := by decide +kernel
theorem i41_119 : xIns xg 41 119 = some (.getfield 22) := by decide +kernel
theorem i41_122 : xIns xg 41 122 = some (.getfield 69) := by decide +kernel
theorem i41_125 : xIns xg 41 125 = some (.iload_n 3) := by decide +kernel
theorem i41_126 : xIns xg 41 126 = some (.iaload) := by decide +kernel
theorem i41_127 : xIns xg 41 127 = some (.bipush 7) := by decide +kernel
theorem i41_129 : xIns xg 41 129 = some (.if_icmp .ne 15) := by decide +kernel
theorem i41_144 : xIns xg 41 144 = some (.aload_n 0) := by decide +kernel
theorem i41_145 : xIns xg 41 145 = some (.iload_n 3) := by decide +kernel
theorem i41_146 : xIns xg 41 146 = some (.iload 4) := by decide +kernel
theorem i41_148 : xIns xg 41 148 = some (.invokevirtual 77) := by decide +kernel
theorem i41_151 : xIns xg 41 151 = some (.istore 5) := by decide +kernel
theorem i41_132 : xIns xg 41 132 = some (.aload_n 0) := by decide +kernel
theorem i41_133 : xIns xg 41 133 = some (.iload_n 3) := by decide +kernel
theorem i41_134 : xIns xg 41 134 = some (.iload 4) := by decide +kernel
theorem i41_136 : xIns xg 41 136 = some (.invokevirtual 74) := by decide +kernel
theorem i41_139 : xIns xg 41 139 = some (.istore 5) := by decide +kernel
theorem i41_141 : xIns xg 41 141 = some (.goto 12) := by decide +kernel
theorem i41_106 : xIns xg 41 106 = some (.aload_n 0) := by decide +kernel
theorem i41_107 : xIns xg 41 107 = some (.iload_n 3) := by decide +kernel
theorem i41_108 : xIns xg 41 108 = some (.iload 4) := by decide +kernel
theorem i41_110 : xIns xg 41 110 = some (.invokevirtual 66) := by decide +kernel
theorem i41_113 : xIns xg 41 113 = some (.istore 5) := by decide +kernel
theorem i41_115 : xIns xg 41 115 = some (.goto 38) := by decide +kernel
theorem i41_77 : xIns xg 41 77 = some (.bipush (-6)) := by decide +kernel
theorem i41_79 : xIns xg 41 79 = some (.ireturn) := by decide +kernel
theorem i41_67 : xIns xg 41 67 = some (.bipush (-21)) := by decide +kernel
theorem i41_69 : xIns xg 41 69 = some (.ireturn) := by decide +kernel
theorem i41_0 : xIns xg 41 0 = some (.aload_n 0) := by decide +kernel
theorem i41_1 : xIns xg 41 1 = some (.iload_n 1) := by decide +kernel
theorem i41_2 : xIns xg 41 2 = some (.invokevirtual 37) := by decide +kernel
theorem i41_5 : xIns xg 41 5 = some (.istore_n 3) := by decide +kernel
theorem i41_6 : xIns xg 41 6 = some (.iload_n 3) := by decide +kernel
theorem i41_7 : xIns xg 41 7 = some (.ifCond .ge 5) := by decide +kernel
theorem i41_12 : xIns xg 41 12 = some (.iload_n 2) := by decide +kernel
theorem i41_13 : xIns xg 41 13 = some (.ifCond .lt 9) := by decide +kernel
theorem i41_22 : xIns xg 41 22 = some (.bipush (-24)) := by decide +kernel
theorem i41_24 : xIns xg 41 24 = some (.ireturn) := by decide +kernel
theorem i41_16 : xIns xg 41 16 = some (.iload_n 2) := by decide +kernel
theorem i41_17 : xIns xg 41 17 = some (.bipush 64) := by decide +kernel
theorem i41_19 : xIns xg 41 19 = some (.if_icmp .lt 6) := by decide +kernel
theorem i41_25 : xIns xg 41 25 = some (.aload_n 0) := by decide +kernel
theorem i41_26 : xIns xg 41 26 = some (.getfield 26) := by decide +kernel
theorem i41_29 : xIns xg 41 29 = some (.getfield 41) := by decide +kernel
theorem i41_32 : xIns xg 41 32 = some (.iload_n 3) := by decide +kernel
theorem i41_33 : xIns xg 41 33 = some (.iaload) := by decide +kernel
theorem i41_34 : xIns xg 41 34 = some (.istore 4) := by decide +kernel
theorem i41_10 : xIns xg 41 10 = some (.iload_n 3) := by decide +kernel
theorem i41_11 : xIns xg 41 11 = some (.ireturn) := by decide +kernel
def d_x4_askPlace_212 (N : Nat) (r_askPlace : St → Int → Int → Option Rs) (r_askHead : St → Int → Int → Option Rs) (t : Nat)  (s : St) (x2 : Int) (x3 : Int) : Option Rs :=
  if s 50 1 = (t : Int) then if 0 ≤ (w32 x3) ∧ (w32 x3) < ((192 : Nat) : Int) then (if (w32 x2) < (w32 (s (t + 1) (Int.toNat (w32 x3)))) then some (s, 1) else if s 50 1 = (t : Int) then if 0 ≤ (w32 x3) ∧ (w32 x3) < ((192 : Nat) : Int) then some (s, (s (t + 3) (Int.toNat (w32 x3)))) else none else none) else none else none
set_option maxHeartbeats 4000000 in
set_option maxRecDepth 100000 in
theorem c_x4_askPlace_212 {sc : xS} {d : Nat} {R : Rs} (N : Nat) (r_askPlace : St → Int → Int → Option Rs) (r_askHead : St → Int → Int → Option Rs) (t : Nat) (e : Nat) (hr_askPlace : ∀ d, e ≤ d → ∀ (s : St) (a0 a1 : Int) (R : Rs), r_askPlace s a0 a1 = some R → vT sc d 41 0 [(0, .ref 50), (1, vi a0), (2, vi a1)] [] s (fun r => r = qI R)) (hr_askHead : ∀ d, e ≤ d → ∀ (s : St) (a0 a1 : Int) (R : Rs), r_askHead s a0 a1 = some R → vT sc d 40 0 [(0, .ref 50), (1, vi a0), (2, vi a1)] [] s (fun r => r = qI R)) (H : isTold t) (hd : e + 3 ≤ d)   (s : St) (x2 : Int) (x3 : Int) : d_x4_askPlace_212 N r_askPlace r_askHead t  s x2 x3 = some R → vT sc d 41 212 [(0, .ref 50), (2, vi x2), (3, vi x3)] [] s (fun r => r = qI R) := by
  obtain ⟨d, rfl⟩ : ∃ d', d = d' + 1 := ⟨d - 1, by omega⟩
  unfold d_x4_askPlace_212
  refine vLin 213 i41_212 rfl rfl ?_
  refine vLan 214 i41_213 rfl rfl ?_
  refine vGetR 217 i41_214 f41_26 sh_50 rfl rfl ?_
  refine vGetC 220 i41_217 f41_41 (told_0 H) rfl rfl ?_
  refine vLin 221 i41_220 rfl rfl ?_
  refine vIal 222 rfl i41_221 (told_1 H) rfl ?_
  refine vCge 229 225 rfl rfl i41_222 rfl rfl ?_ ?_
  · refine vLan 230 i41_229 rfl rfl ?_
    refine vGetR 233 i41_230 f41_26 sh_50 rfl rfl ?_
    refine vGetC 236 i41_233 f41_47 (told_0 H) rfl rfl ?_
    refine vLin 237 i41_236 rfl rfl ?_
    refine vIal 238 rfl i41_237 (told_3 H) rfl ?_
    exact vRi i41_238 m41 rfl
  · refine vK 226 i41_225 rfl ?_
    refine vGo 238 i41_226 rfl ?_
    exact vRi i41_238 m41 rfl
def d_x4_askPlace_206 (N : Nat) (r_askPlace : St → Int → Int → Option Rs) (r_askHead : St → Int → Int → Option Rs) (t : Nat) (k36 : St → Int → Int → Int → Option Rs) (s : St) (x2 : Int) (x3 : Int) (x4 : Int) : Option Rs :=
  bd (x4 + 1) fun v1 => k36 s x2 x3 v1
set_option maxHeartbeats 4000000 in
set_option maxRecDepth 100000 in
theorem c_x4_askPlace_206 {sc : xS} {d : Nat} {R : Rs} (N : Nat) (r_askPlace : St → Int → Int → Option Rs) (r_askHead : St → Int → Int → Option Rs) (t : Nat) (e : Nat) (hr_askPlace : ∀ d, e ≤ d → ∀ (s : St) (a0 a1 : Int) (R : Rs), r_askPlace s a0 a1 = some R → vT sc d 41 0 [(0, .ref 50), (1, vi a0), (2, vi a1)] [] s (fun r => r = qI R)) (hr_askHead : ∀ d, e ≤ d → ∀ (s : St) (a0 a1 : Int) (R : Rs), r_askHead s a0 a1 = some R → vT sc d 40 0 [(0, .ref 50), (1, vi a0), (2, vi a1)] [] s (fun r => r = qI R)) (H : isTold t) (hd : e + 3 ≤ d) (k36 : St → Int → Int → Int → Option Rs) (hk36 : ∀ (s : St) (x2 : Int) (x3 : Int) (x4 : Int), k36 s x2 x3 x4 = some R → vT sc d 41 36 [(0, .ref 50), (2, vi x2), (3, vi x3), (4, vi x4)] [] s (fun r => r = qI R))  (s : St) (x2 : Int) (x3 : Int) (x4 : Int) : d_x4_askPlace_206 N r_askPlace r_askHead t k36 s x2 x3 x4 = some R → vT sc d 41 206 [(0, .ref 50), (2, vi x2), (3, vi x3), (4, vi x4)] [] s (fun r => r = qI R) := by
  obtain ⟨d, rfl⟩ : ∃ d', d = d' + 1 := ⟨d - 1, by omega⟩
  unfold d_x4_askPlace_206
  refine vInc 209 (fun v1 => [(4, vi v1), (0, .ref 50), (2, vi x2), (3, vi x3)]) i41_206 m41 (by decide) rfl (fun _ => rfl) rfl (fun v1 => ?_)
  refine vGo 36 i41_209 rfl ?_
  exact fun hD => tLc [(0, .ref 50), (2, vi x2), (3, vi x3), (4, vi v1)] (xNdk [0, 2, 3, 4] rfl (by decide)) (xNdk [4, 0, 2, 3] rfl (by decide)) ⟨rfl, rfl, rfl, rfl, trivial⟩ (hk36 s x2 x3 v1 hD)
def d_x4_askPlace_153 (N : Nat) (r_askPlace : St → Int → Int → Option Rs) (r_askHead : St → Int → Int → Option Rs) (t : Nat) (k36 : St → Int → Int → Int → Option Rs) (s : St) (x2 : Int) (x3 : Int) (x4 : Int) (x5 : Int) : Option Rs :=
  if s 50 1 = (t : Int) then if 0 ≤ (w32 x3) ∧ (w32 x3) < ((192 : Nat) : Int) then bd (up s (t + 4) (Int.toNat (w32 x3)) (and32 0 1)) fun s2 => (if (w32 x5) = (-6) then some (s2, (-6)) else (if (w32 x5) = 1 then if s2 50 1 = (t : Int) then if 0 ≤ (w32 x3) ∧ (w32 x3) < ((192 : Nat) : Int) then if 0 ≤ (w32 x3) ∧ (w32 x3) < ((192 : Nat) : Int) then bd (up s2 (t + 1) (Int.toNat (w32 x3)) ((s2 (t + 1) (Int.toNat (w32 x3))) + 1)) fun s4 => d_x4_askPlace_206 N r_askPlace r_askHead t k36 s4 x2 x3 x4 else none else none else none else if s2 50 1 = (t : Int) then if 0 ≤ (w32 x3) ∧ (w32 x3) < ((192 : Nat) : Int) then bd (up s2 (t + 3) (Int.toNat (w32 x3)) x5) fun s3 => d_x4_askPlace_206 N r_askPlace r_askHead t k36 s3 x2 x3 x4 else none else none)) else none else none
set_option maxHeartbeats 4000000 in
set_option maxRecDepth 100000 in
theorem c_x4_askPlace_153 {sc : xS} {d : Nat} {R : Rs} (N : Nat) (r_askPlace : St → Int → Int → Option Rs) (r_askHead : St → Int → Int → Option Rs) (t : Nat) (e : Nat) (hr_askPlace : ∀ d, e ≤ d → ∀ (s : St) (a0 a1 : Int) (R : Rs), r_askPlace s a0 a1 = some R → vT sc d 41 0 [(0, .ref 50), (1, vi a0), (2, vi a1)] [] s (fun r => r = qI R)) (hr_askHead : ∀ d, e ≤ d → ∀ (s : St) (a0 a1 : Int) (R : Rs), r_askHead s a0 a1 = some R → vT sc d 40 0 [(0, .ref 50), (1, vi a0), (2, vi a1)] [] s (fun r => r = qI R)) (H : isTold t) (hd : e + 3 ≤ d) (k36 : St → Int → Int → Int → Option Rs) (hk36 : ∀ (s : St) (x2 : Int) (x3 : Int) (x4 : Int), k36 s x2 x3 x4 = some R → vT sc d 41 36 [(0, .ref 50), (2, vi x2), (3, vi x3), (4, vi x4)] [] s (fun r => r = qI R))  (s : St) (x2 : Int) (x3 : Int) (x4 : Int) (x5 : Int) : d_x4_askPlace_153 N r_askPlace r_askHead t k36 s x2 x3 x4 x5 = some R → vT sc d 41 153 [(0, .ref 50), (2, vi x2), (3, vi x3), (4, vi x4), (5, vi x5)] [] s (fun r => r = qI R) := by
  obtain ⟨d, rfl⟩ : ∃ d', d = d' + 1 := ⟨d - 1, by omega⟩
  unfold d_x4_askPlace_153
  refine vLan 154 i41_153 rfl rfl ?_
  refine vGetR 157 i41_154 f41_26 sh_50 rfl rfl ?_
  refine vGetC 160 i41_157 f41_50 (told_0 H) rfl rfl ?_
  refine vLin 161 i41_160 rfl rfl ?_
  refine vK 162 i41_161 rfl ?_
  refine vZas 163 rfl i41_162 (told_4 H) rfl (fun s2 => ?_)
  refine vLi 165 i41_163 rfl rfl ?_
  refine vKb 167 i41_165 (by decide) rfl ?_
  refine vCne 173 170 rfl (show w32 (-6) = (-6) from rfl) i41_167 rfl rfl ?_ ?_
  · refine vLi 175 i41_173 rfl rfl ?_
    refine vK 176 i41_175 rfl ?_
    refine vCne 195 179 rfl (show w32 1 = 1 from rfl) i41_176 rfl rfl ?_ ?_
    · refine vLan 196 i41_195 rfl rfl ?_
      refine vGetR 199 i41_196 f41_26 sh_50 rfl rfl ?_
      refine vGetC 202 i41_199 f41_47 (told_0 H) rfl rfl ?_
      refine vLin 203 i41_202 rfl rfl ?_
      refine vLi 205 i41_203 rfl rfl ?_
      refine vIas 206 rfl i41_205 (told_3 H) rfl (fun s3 => ?_)
      exact fun hD => tLc [(0, .ref 50), (2, vi x2), (3, vi x3), (4, vi x4)] (xNdk [0, 2, 3, 4] rfl (by decide)) (xNdk [0, 2, 3, 4, 5] rfl (by decide)) ⟨rfl, rfl, rfl, rfl, trivial⟩ (c_x4_askPlace_206 N r_askPlace r_askHead t e hr_askPlace hr_askHead H hd k36 hk36 s3 x2 x3 x4 hD)
    · refine vLan 180 i41_179 rfl rfl ?_
      refine vGetR 183 i41_180 f41_26 sh_50 rfl rfl ?_
      refine vGetC 186 i41_183 f41_41 (told_0 H) rfl rfl ?_
      refine vLin 187 i41_186 rfl rfl ?_
      refine vD 188 i41_187 rfl rfl rfl ?_
      refine vIal 189 rfl i41_188 (told_1 H) rfl ?_
      refine vK 190 i41_189 rfl ?_
      refine vIadd 191 i41_190 rfl ?_
      refine vIas 192 rfl i41_191 (told_1 H) rfl (fun s4 => ?_)
      refine vGo 206 i41_192 rfl ?_
      exact fun hD => tLc [(0, .ref 50), (2, vi x2), (3, vi x3), (4, vi x4)] (xNdk [0, 2, 3, 4] rfl (by decide)) (xNdk [0, 2, 3, 4, 5] rfl (by decide)) ⟨rfl, rfl, rfl, rfl, trivial⟩ (c_x4_askPlace_206 N r_askPlace r_askHead t e hr_askPlace hr_askHead H hd k36 hk36 s4 x2 x3 x4 hD)
  · refine vKb 172 i41_170 (by decide) rfl ?_
    exact vRi i41_172 m41 rfl
def d_x4_askPlace_36 (N : Nat) (r_askPlace : St → Int → Int → Option Rs) (r_askHead : St → Int → Int → Option Rs) (t : Nat)  (k36 : St → Int → Int → Int → Option Rs) (s : St) (x2 : Int) (x3 : Int) (x4 : Int) : Option Rs :=
  (if (w32 x2) < (w32 x4) then d_x4_askPlace_212 N r_askPlace r_askHead t  s x2 x3 else if s 50 1 = (t : Int) then if 0 ≤ (w32 x3) ∧ (w32 x3) < ((192 : Nat) : Int) then (if (w32 (s (t + 3) (Int.toNat (w32 x3)))) = 1 then if s 50 1 = (t : Int) then if 0 ≤ (w32 x3) ∧ (w32 x3) < ((192 : Nat) : Int) then (if (w32 (s (t + 4) (Int.toNat (w32 x3)))) = 0 then bI (d_x4_beginsRun N  s ) fun s5 v6 => (if (w32 v6) = 0 then some (s5, (-6)) else if s5 50 1 = (t : Int) then bV (d_x6_meet N t s5 x3) fun s7 => if s7 50 1 = (t : Int) then if 0 ≤ (w32 x3) ∧ (w32 x3) < ((192 : Nat) : Int) then bd (up s7 (t + 4) (Int.toNat (w32 x3)) (and32 1 1)) fun s9 => bI (d_x4_seeks N  s9 x3) fun s10 v11 => (if (w32 v11) = 0 then if 0 ≤ (w32 x3) ∧ (w32 x3) < ((192 : Nat) : Int) then (if (w32 (s10 19 (Int.toNat (w32 x3)))) = 7 then bI (d_x4_mergePlace N r_askPlace r_askHead t s10 x3 x4) fun s14 v15 => d_x4_askPlace_153 N r_askPlace r_askHead t k36 s14 x2 x3 x4 v15 else bI (d_x4_tellPlace N r_askPlace r_askHead t s10 x3 x4) fun s12 v13 => d_x4_askPlace_153 N r_askPlace r_askHead t k36 s12 x2 x3 x4 v13) else none else bI (d_x4_seekPlace N r_askPlace r_askHead t s10 x3 x4) fun s16 v17 => d_x4_askPlace_153 N r_askPlace r_askHead t k36 s16 x2 x3 x4 v17) else none else none else none) else some (s, (-21))) else none else none else d_x4_askPlace_212 N r_askPlace r_askHead t  s x2 x3) else none else none)
def d_x4_askPlace_36L (N : Nat) (r_askPlace : St → Int → Int → Option Rs) (r_askHead : St → Int → Int → Option Rs) (t : Nat)  : Nat → St → Int → Int → Int → Option Rs
  | 0 => fun _ _ _ _ => none
  | n + 1 => d_x4_askPlace_36 N r_askPlace r_askHead t  (d_x4_askPlace_36L N r_askPlace r_askHead t  n)
set_option maxHeartbeats 4000000 in
set_option maxRecDepth 100000 in
theorem c_x4_askPlace_36 {sc : xS} {d : Nat} {R : Rs} (N : Nat) (r_askPlace : St → Int → Int → Option Rs) (r_askHead : St → Int → Int → Option Rs) (t : Nat) (e : Nat) (hr_askPlace : ∀ d, e ≤ d → ∀ (s : St) (a0 a1 : Int) (R : Rs), r_askPlace s a0 a1 = some R → vT sc d 41 0 [(0, .ref 50), (1, vi a0), (2, vi a1)] [] s (fun r => r = qI R)) (hr_askHead : ∀ d, e ≤ d → ∀ (s : St) (a0 a1 : Int) (R : Rs), r_askHead s a0 a1 = some R → vT sc d 40 0 [(0, .ref 50), (1, vi a0), (2, vi a1)] [] s (fun r => r = qI R)) (H : isTold t) (hd : e + 3 ≤ d)   (k36 : St → Int → Int → Int → Option Rs) (hk36 : ∀ (s : St) (x2 : Int) (x3 : Int) (x4 : Int), k36 s x2 x3 x4 = some R → vT sc d 41 36 [(0, .ref 50), (2, vi x2), (3, vi x3), (4, vi x4)] [] s (fun r => r = qI R)) (s : St) (x2 : Int) (x3 : Int) (x4 : Int) : d_x4_askPlace_36 N r_askPlace r_askHead t  k36 s x2 x3 x4 = some R → vT sc d 41 36 [(0, .ref 50), (2, vi x2), (3, vi x3), (4, vi x4)] [] s (fun r => r = qI R) := by
  obtain ⟨d, rfl⟩ : ∃ d', d = d' + 1 := ⟨d - 1, by omega⟩
  unfold d_x4_askPlace_36
  refine vLi 38 i41_36 rfl rfl ?_
  refine vLin 39 i41_38 rfl rfl ?_
  refine vCgt 212 42 rfl rfl i41_39 rfl rfl ?_ ?_
  · exact fun hD => tLc [(0, .ref 50), (2, vi x2), (3, vi x3)] (xNdk [0, 2, 3] rfl (by decide)) (xNdk [0, 2, 3, 4] rfl (by decide)) ⟨rfl, rfl, rfl, trivial⟩ (c_x4_askPlace_212 N r_askPlace r_askHead t e hr_askPlace hr_askHead H hd  s x2 x3 hD)
  · refine vLan 43 i41_42 rfl rfl ?_
    refine vGetR 46 i41_43 f41_26 sh_50 rfl rfl ?_
    refine vGetC 49 i41_46 f41_47 (told_0 H) rfl rfl ?_
    refine vLin 50 i41_49 rfl rfl ?_
    refine vIal 51 rfl i41_50 (told_3 H) rfl ?_
    refine vK 52 i41_51 rfl ?_
    refine vCne 212 55 rfl (show w32 1 = 1 from rfl) i41_52 rfl rfl ?_ ?_
    · exact fun hD => tLc [(0, .ref 50), (2, vi x2), (3, vi x3)] (xNdk [0, 2, 3] rfl (by decide)) (xNdk [0, 2, 3, 4] rfl (by decide)) ⟨rfl, rfl, rfl, trivial⟩ (c_x4_askPlace_212 N r_askPlace r_askHead t e hr_askPlace hr_askHead H hd  s x2 x3 hD)
    · refine vLan 56 i41_55 rfl rfl ?_
      refine vGetR 59 i41_56 f41_26 sh_50 rfl rfl ?_
      refine vGetC 62 i41_59 f41_50 (told_0 H) rfl rfl ?_
      refine vLin 63 i41_62 rfl rfl ?_
      refine vZal 64 rfl i41_63 (told_4 H) rfl ?_
      refine vZeq 70 67 rfl i41_64 rfl rfl ?_ ?_
      · refine vLan 71 i41_70 rfl rfl ?_
        refine vCallI 74 [.ref 50] [] [(0, .ref 50)] i41_71 rfl (xlk0 l41_54) (Or.inl rfl) m43 rfl rfl (Nat.le_of_ble_eq_true rfl) (Nat.le_of_ble_eq_true rfl) (Nat.le_of_ble_eq_true rfl) (xh0 sh_50 (by decide)) rfl rfl (fun R1 => c_x4_beginsRun N   (by omega) s ) (fun s5 v6 => ?_)
        refine vZne 80 77 rfl i41_74 rfl rfl ?_ ?_
        · refine vLan 81 i41_80 rfl rfl ?_
          refine vGetR 84 i41_81 f41_26 sh_50 rfl rfl ?_
          refine vLin 85 i41_84 rfl rfl ?_
          refine vCallV 88 [.ref t, vi x3] [] [(0, .ref t), (1, vi x3)] i41_85 rfl (xlk0 l41_58) (Or.inl rfl) m74 rfl rfl (Nat.le_of_ble_eq_true rfl) (Nat.le_of_ble_eq_true rfl) (Nat.le_of_ble_eq_true rfl) (xh0 (told_0 H) (by decide)) rfl rfl (fun R1 => c_x6_meet N t H (by omega) s5 x3) (fun s7 => ?_)
          refine vLan 89 i41_88 rfl rfl ?_
          refine vGetR 92 i41_89 f41_26 sh_50 rfl rfl ?_
          refine vGetC 95 i41_92 f41_50 (told_0 H) rfl rfl ?_
          refine vLin 96 i41_95 rfl rfl ?_
          refine vK 97 i41_96 rfl ?_
          refine vZas 98 rfl i41_97 (told_4 H) rfl (fun s9 => ?_)
          refine vLan 99 i41_98 rfl rfl ?_
          refine vLin 100 i41_99 rfl rfl ?_
          refine vCallI 103 [.ref 50, vi x3] [] [(0, .ref 50), (1, vi x3)] i41_100 rfl (xlk0 l41_62) (Or.inl rfl) m57 rfl rfl (Nat.le_of_ble_eq_true rfl) (Nat.le_of_ble_eq_true rfl) (Nat.le_of_ble_eq_true rfl) (xh0 sh_50 (by decide)) rfl rfl (fun R1 => c_x4_seeks N   (by omega) s9 x3) (fun s10 v11 => ?_)
          refine vZeq 118 106 rfl i41_103 rfl rfl ?_ ?_
          · refine vLan 119 i41_118 rfl rfl ?_
            refine vGetC 122 i41_119 f41_22 sh_50 rfl rfl ?_
            refine vGetC 125 i41_122 f41_69 sh_17 rfl rfl ?_
            refine vLin 126 i41_125 rfl rfl ?_
            refine vIal 127 rfl i41_126 sh_19 rfl ?_
            refine vKb 129 i41_127 (by decide) rfl ?_
            refine vCne 144 132 rfl (show w32 7 = 7 from rfl) i41_129 rfl rfl ?_ ?_
            · refine vLan 145 i41_144 rfl rfl ?_
              refine vLin 146 i41_145 rfl rfl ?_
              refine vLi 148 i41_146 rfl rfl ?_
              refine vCallI 151 [.ref 50, vi x3, vi x4] [] [(0, .ref 50), (1, vi x3), (2, vi x4)] i41_148 rfl (xlk0 l41_77) (Or.inl rfl) m60 rfl rfl (Nat.le_of_ble_eq_true rfl) (Nat.le_of_ble_eq_true rfl) (Nat.le_of_ble_eq_true rfl) (xh0 sh_50 (by decide)) rfl rfl (fun R1 => c_x4_tellPlace N r_askPlace r_askHead t e hr_askPlace hr_askHead H (by omega) s10 x3 x4) (fun s12 v13 => ?_)
              refine vSi0 153 [(5, vi v13), (0, .ref 50), (2, vi x2), (3, vi x3), (4, vi x4)] i41_151 m41 (by decide) rfl rfl ?_
              exact fun hD => tLc [(0, .ref 50), (2, vi x2), (3, vi x3), (4, vi x4), (5, vi v13)] (xNdk [0, 2, 3, 4, 5] rfl (by decide)) (xNdk [5, 0, 2, 3, 4] rfl (by decide)) ⟨rfl, rfl, rfl, rfl, rfl, trivial⟩ (c_x4_askPlace_153 N r_askPlace r_askHead t e hr_askPlace hr_askHead H hd k36 hk36 s12 x2 x3 x4 v13 hD)
            · refine vLan 133 i41_132 rfl rfl ?_
              refine vLin 134 i41_133 rfl rfl ?_
              refine vLi 136 i41_134 rfl rfl ?_
              refine vCallI 139 [.ref 50, vi x3, vi x4] [] [(0, .ref 50), (1, vi x3), (2, vi x4)] i41_136 rfl (xlk0 l41_74) (Or.inl rfl) m50 rfl rfl (Nat.le_of_ble_eq_true rfl) (Nat.le_of_ble_eq_true rfl) (Nat.le_of_ble_eq_true rfl) (xh0 sh_50 (by decide)) rfl rfl (fun R1 => c_x4_mergePlace N r_askPlace r_askHead t e hr_askPlace hr_askHead H (by omega) s10 x3 x4) (fun s14 v15 => ?_)
              refine vSi0 141 [(5, vi v15), (0, .ref 50), (2, vi x2), (3, vi x3), (4, vi x4)] i41_139 m41 (by decide) rfl rfl ?_
              refine vGo 153 i41_141 rfl ?_
              exact fun hD => tLc [(0, .ref 50), (2, vi x2), (3, vi x3), (4, vi x4), (5, vi v15)] (xNdk [0, 2, 3, 4, 5] rfl (by decide)) (xNdk [5, 0, 2, 3, 4] rfl (by decide)) ⟨rfl, rfl, rfl, rfl, rfl, trivial⟩ (c_x4_askPlace_153 N r_askPlace r_askHead t e hr_askPlace hr_askHead H hd k36 hk36 s14 x2 x3 x4 v15 hD)
          · refine vLan 107 i41_106 rfl rfl ?_
            refine vLin 108 i41_107 rfl rfl ?_
            refine vLi 110 i41_108 rfl rfl ?_
            refine vCallI 113 [.ref 50, vi x3, vi x4] [] [(0, .ref 50), (1, vi x3), (2, vi x4)] i41_110 rfl (xlk0 l41_66) (Or.inl rfl) m56 rfl rfl (Nat.le_of_ble_eq_true rfl) (Nat.le_of_ble_eq_true rfl) (Nat.le_of_ble_eq_true rfl) (xh0 sh_50 (by decide)) rfl rfl (fun R1 => c_x4_seekPlace N r_askPlace r_askHead t e hr_askPlace hr_askHead H (by omega) s10 x3 x4) (fun s16 v17 => ?_)
            refine vSi0 115 [(5, vi v17), (0, .ref 50), (2, vi x2), (3, vi x3), (4, vi x4)] i41_113 m41 (by decide) rfl rfl ?_
            refine vGo 153 i41_115 rfl ?_
            exact fun hD => tLc [(0, .ref 50), (2, vi x2), (3, vi x3), (4, vi x4), (5, vi v17)] (xNdk [0, 2, 3, 4, 5] rfl (by decide)) (xNdk [5, 0, 2, 3, 4] rfl (by decide)) ⟨rfl, rfl, rfl, rfl, rfl, trivial⟩ (c_x4_askPlace_153 N r_askPlace r_askHead t e hr_askPlace hr_askHead H hd k36 hk36 s16 x2 x3 x4 v17 hD)
        · refine vKb 79 i41_77 (by decide) rfl ?_
          exact vRi i41_79 m41 rfl
      · refine vKb 69 i41_67 (by decide) rfl ?_
        exact vRi i41_69 m41 rfl
theorem c_x4_askPlace_36L {sc : xS} {d : Nat} {R : Rs} (N : Nat) (r_askPlace : St → Int → Int → Option Rs) (r_askHead : St → Int → Int → Option Rs) (t : Nat) (e : Nat) (hr_askPlace : ∀ d, e ≤ d → ∀ (s : St) (a0 a1 : Int) (R : Rs), r_askPlace s a0 a1 = some R → vT sc d 41 0 [(0, .ref 50), (1, vi a0), (2, vi a1)] [] s (fun r => r = qI R)) (hr_askHead : ∀ d, e ≤ d → ∀ (s : St) (a0 a1 : Int) (R : Rs), r_askHead s a0 a1 = some R → vT sc d 40 0 [(0, .ref 50), (1, vi a0), (2, vi a1)] [] s (fun r => r = qI R)) (H : isTold t) (hd : e + 3 ≤ d)   : ∀ (n : Nat) (s : St) (x2 : Int) (x3 : Int) (x4 : Int), d_x4_askPlace_36L N r_askPlace r_askHead t  n s x2 x3 x4 = some R → vT sc d 41 36 [(0, .ref 50), (2, vi x2), (3, vi x3), (4, vi x4)] [] s (fun r => r = qI R) := by
  intro n
  induction n with
  | zero => intro s x2 x3 x4 hD; cases hD
  | succ n ih => intro s x2 x3 x4 hD; exact c_x4_askPlace_36 N r_askPlace r_askHead t e hr_askPlace hr_askHead H hd  _ ih s x2 x3 x4 hD
def d_x4_askPlace (N : Nat) (r_askPlace : St → Int → Int → Option Rs) (r_askHead : St → Int → Int → Option Rs) (t : Nat)  (s : St) (a0 : Int) (a1 : Int) : Option Rs :=
  bI (d_x4_behindNames N  s a0) fun s18 v19 => (if (w32 v19) < 0 then some (s18, v19) else (if (w32 a1) < 0 then some (s18, (-24)) else (if (w32 a1) < 64 then if s18 50 1 = (t : Int) then if 0 ≤ (w32 v19) ∧ (w32 v19) < ((192 : Nat) : Int) then bd (s18 (t + 1) (Int.toNat (w32 v19))) fun v20 => d_x4_askPlace_36L N r_askPlace r_askHead t  N s18 a1 v19 v20 else none else none else some (s18, (-24)))))
set_option maxHeartbeats 4000000 in
set_option maxRecDepth 100000 in
theorem c_x4_askPlace {sc : xS} {d : Nat} {R : Rs} (N : Nat) (r_askPlace : St → Int → Int → Option Rs) (r_askHead : St → Int → Int → Option Rs) (t : Nat) (e : Nat) (hr_askPlace : ∀ d, e ≤ d → ∀ (s : St) (a0 a1 : Int) (R : Rs), r_askPlace s a0 a1 = some R → vT sc d 41 0 [(0, .ref 50), (1, vi a0), (2, vi a1)] [] s (fun r => r = qI R)) (hr_askHead : ∀ d, e ≤ d → ∀ (s : St) (a0 a1 : Int) (R : Rs), r_askHead s a0 a1 = some R → vT sc d 40 0 [(0, .ref 50), (1, vi a0), (2, vi a1)] [] s (fun r => r = qI R)) (H : isTold t) (hd : e + 3 ≤ d)   (s : St) (a0 : Int) (a1 : Int) : d_x4_askPlace N r_askPlace r_askHead t  s a0 a1 = some R → vT sc d 41 0 [(0, .ref 50), (1, vi a0), (2, vi a1)] [] s (fun r => r = qI R) := by
  obtain ⟨d, rfl⟩ : ∃ d', d = d' + 1 := ⟨d - 1, by omega⟩
  unfold d_x4_askPlace
  refine vLan 1 i41_0 rfl rfl ?_
  refine vLin 2 i41_1 rfl rfl ?_
  refine vCallI 5 [.ref 50, vi a0] [] [(0, .ref 50), (1, vi a0)] i41_2 rfl (xlk0 l41_37) (Or.inl rfl) m44 rfl rfl (Nat.le_of_ble_eq_true rfl) (Nat.le_of_ble_eq_true rfl) (Nat.le_of_ble_eq_true rfl) (xh0 sh_50 (by decide)) rfl rfl (fun R1 => c_x4_behindNames N   (by omega) s a0) (fun s18 v19 => ?_)
  refine vSin0 6 [(3, vi v19), (0, .ref 50), (1, vi a0), (2, vi a1)] i41_5 m41 (by decide) rfl rfl ?_
  refine vLin 7 i41_6 rfl rfl ?_
  refine vZge 12 10 rfl i41_7 rfl rfl ?_ ?_
  · refine vLin 13 i41_12 rfl rfl ?_
    refine vZlt 22 16 rfl i41_13 rfl rfl ?_ ?_
    · refine vKb 24 i41_22 (by decide) rfl ?_
      exact vRi i41_24 m41 rfl
    · refine vLin 17 i41_16 rfl rfl ?_
      refine vKb 19 i41_17 (by decide) rfl ?_
      refine vClt 25 22 rfl (show w32 64 = 64 from rfl) i41_19 rfl rfl ?_ ?_
      · refine vLan 26 i41_25 rfl rfl ?_
        refine vGetR 29 i41_26 f41_26 sh_50 rfl rfl ?_
        refine vGetC 32 i41_29 f41_41 (told_0 H) rfl rfl ?_
        refine vLin 33 i41_32 rfl rfl ?_
        refine vIal 34 rfl i41_33 (told_1 H) rfl ?_
        refine vSi 36 (fun v20 => [(4, vi v20), (3, vi v19), (0, .ref 50), (1, vi a0), (2, vi a1)]) i41_34 m41 (by decide) (fun v20 => (rfl : xst1 [(3, vi v19), (0, .ref 50), (1, vi a0), (2, vi a1)] 4 (vi v20) = [(4, vi v20), (3, vi v19), (0, .ref 50), (1, vi a0), (2, vi a1)])) rfl (fun v20 => ?_)
        exact fun hD => tLc [(0, .ref 50), (2, vi a1), (3, vi v19), (4, vi v20)] (xNdk [0, 2, 3, 4] rfl (by decide)) (xNdk [4, 3, 0, 1, 2] rfl (by decide)) ⟨rfl, rfl, rfl, rfl, trivial⟩ (c_x4_askPlace_36L N r_askPlace r_askHead t e hr_askPlace hr_askHead H hd  N s18 a1 v19 v20 hD)
      · refine vKb 24 i41_22 (by decide) rfl ?_
        exact vRi i41_24 m41 rfl
  · refine vLin 11 i41_10 rfl rfl ?_
    exact vRi i41_11 m41 rfl
def gc (N : Nat) (t : Nat) : Nat → (St → Int → Int → Option Rs) × (St → Int → Int → Option Rs)
  | 0 => (fun _ _ _ => none, fun _ _ _ => none)
  | n + 1 => (d_x4_askPlace N (gc N t n).1 (gc N t n).2 t, d_x4_askHead N (gc N t n).1 (gc N t n).2 t)
theorem gc_ok {sc : xS} (N : Nat) (t : Nat) (H : isTold t) : ∀ n d, 4 * n ≤ d → (∀ (s : St) (a0 a1 : Int) (R : Rs), (gc N t n).1 s a0 a1 = some R → vT sc d 41 0 [(0, .ref 50), (1, vi a0), (2, vi a1)] [] s (fun r => r = qI R)) ∧ (∀ (s : St) (a0 a1 : Int) (R : Rs), (gc N t n).2 s a0 a1 = some R → vT sc d 40 0 [(0, .ref 50), (1, vi a0), (2, vi a1)] [] s (fun r => r = qI R)) := by
  intro n
  induction n with
  | zero => intro d hd; exact ⟨fun s _ _ R h => (by cases h), fun s _ _ R h => (by cases h)⟩
  | succ n ih =>
    intro d hd
    refine ⟨fun s p i R h => ?_, fun s p i R h => ?_⟩
    · exact c_x4_askPlace N _ _ t (4 * n) (fun d' h' => (ih d' h').1) (fun d' h' => (ih d' h').2) H (by omega) s p i h
    · exact c_x4_askHead N _ _ t (4 * n) (fun d' h' => (ih d' h').1) (fun d' h' => (ih d' h').2) H (by omega) s p i h
theorem i49_0 : xIns xg 49 0 = some (.aload_n 0) := by decide +kernel
theorem i49_1 : xIns xg 49 1 = some (.iload_n 1) := by decide +kernel
theorem i49_2 : xIns xg 49 2 = some (.bipush 24) := by decide +kernel
theorem i49_4 : xIns xg 49 4 = some (.imul) := by decide +kernel
theorem i49_5 : xIns xg 49 5 = some (.iload_n 2) := by decide +kernel
theorem i49_6 : xIns xg 49 6 = some (.invokevirtual 30) := by decide +kernel
theorem i49_9 : xIns xg 49 9 = some (.ireturn) := by decide +kernel
theorem m49 : (xMet xg 49).2.2 = (3, (some .int)) := by decide +kernel
def d_x4_isThere (N : Nat) (t : Nat)  (s : St) (a0 : Int) (a1 : Int) : Option Rs :=
  bI ((gc N t 110).1 s (a0 * 24) a1) fun s1 v2 => some (s1, v2)
set_option maxHeartbeats 4000000 in
set_option maxRecDepth 100000 in
theorem c_x4_isThere {sc : xS} {d : Nat} {R : Rs} (N : Nat) (t : Nat) (H : isTold t) (hd : 441 ≤ d)   (s : St) (a0 : Int) (a1 : Int) : d_x4_isThere N t  s a0 a1 = some R → vT sc d 49 0 [(0, .ref 50), (1, vi a0), (2, vi a1)] [] s (fun r => r = qI R) := by
  obtain ⟨d, rfl⟩ : ∃ d', d = d' + 1 := ⟨d - 1, by omega⟩
  unfold d_x4_isThere
  refine vLan 1 i49_0 rfl rfl ?_
  refine vLin 2 i49_1 rfl rfl ?_
  refine vKb 4 i49_2 (by decide) rfl ?_
  refine vImul 5 i49_4 rfl ?_
  refine vLin 6 i49_5 rfl rfl ?_
  refine vCallI 9 [.ref 50, vi (a0 * 24), vi a1] [] [(0, .ref 50), (1, vi (a0 * 24)), (2, vi a1)] i49_6 rfl (xlk0 l49_30) (Or.inl rfl) m41 rfl rfl (Nat.le_of_ble_eq_true rfl) (Nat.le_of_ble_eq_true rfl) (Nat.le_of_ble_eq_true rfl) (xh0 sh_50 (by decide)) rfl rfl (fun R1 => (gc_ok N t H 110 d (by omega)).1 s (a0 * 24) a1 R1) (fun s1 v2 => ?_)
  exact vRi i49_9 m49 rfl
theorem i51_0 : xIns xg 51 0 = some (.aload_n 0) := by decide +kernel
theorem i51_1 : xIns xg 51 1 = some (.iload_n 1) := by decide +kernel
theorem i51_2 : xIns xg 51 2 = some (.bipush 24) := by decide +kernel
theorem i51_4 : xIns xg 51 4 = some (.imul) := by decide +kernel
theorem i51_5 : xIns xg 51 5 = some (.iload_n 2) := by decide +kernel
theorem i51_6 : xIns xg 51 6 = some (.invokevirtual 30) := by decide +kernel
theorem i51_9 : xIns xg 51 9 = some (.istore_n 3) := by decide +kernel
theorem m51 : (xMet xg 51).2.2 = (4, (some .int)) := by decide +kernel
theorem i51_10 : xIns xg 51 10 = some (.iload_n 3) := by decide +kernel
theorem i51_11 : xIns xg 51 11 = some (.iconst 1) := by decide +kernel
theorem i51_12 : xIns xg 51 12 = some (.if_icmp .ne 15) := by decide +kernel
theorem i51_27 : xIns xg 51 27 = some (.iload_n 3) := by decide +kernel
theorem i51_28 : xIns xg 51 28 = some (.ireturn) := by decide +kernel
theorem i51_15 : xIns xg 51 15 = some (.aload_n 0) := by decide +kernel
theorem i51_16 : xIns xg 51 16 = some (.iload_n 1) := by decide +kernel
theorem i51_17 : xIns xg 51 17 = some (.bipush 24) := by decide +kernel
theorem i51_19 : xIns xg 51 19 = some (.imul) := by decide +kernel
theorem i51_20 : xIns xg 51 20 = some (.iload_n 2) := by decide +kernel
theorem i51_21 : xIns xg 51 21 = some (.invokevirtual 34) := by decide +kernel
theorem i51_24 : xIns xg 51 24 = some (.goto 4) := by decide +kernel
def d_x4_outcome (N : Nat) (t : Nat)  (s : St) (a0 : Int) (a1 : Int) : Option Rs :=
  bI ((gc N t 110).1 s (a0 * 24) a1) fun s1 v2 => (if (w32 v2) = 1 then bI ((gc N t 110).2 s1 (a0 * 24) a1) fun s3 v4 => some (s3, v4) else some (s1, v2))
set_option maxHeartbeats 4000000 in
set_option maxRecDepth 100000 in
theorem c_x4_outcome {sc : xS} {d : Nat} {R : Rs} (N : Nat) (t : Nat) (H : isTold t) (hd : 441 ≤ d)   (s : St) (a0 : Int) (a1 : Int) : d_x4_outcome N t  s a0 a1 = some R → vT sc d 51 0 [(0, .ref 50), (1, vi a0), (2, vi a1)] [] s (fun r => r = qI R) := by
  obtain ⟨d, rfl⟩ : ∃ d', d = d' + 1 := ⟨d - 1, by omega⟩
  unfold d_x4_outcome
  refine vLan 1 i51_0 rfl rfl ?_
  refine vLin 2 i51_1 rfl rfl ?_
  refine vKb 4 i51_2 (by decide) rfl ?_
  refine vImul 5 i51_4 rfl ?_
  refine vLin 6 i51_5 rfl rfl ?_
  refine vCallI 9 [.ref 50, vi (a0 * 24), vi a1] [] [(0, .ref 50), (1, vi (a0 * 24)), (2, vi a1)] i51_6 rfl (xlk0 l51_30) (Or.inl rfl) m41 rfl rfl (Nat.le_of_ble_eq_true rfl) (Nat.le_of_ble_eq_true rfl) (Nat.le_of_ble_eq_true rfl) (xh0 sh_50 (by decide)) rfl rfl (fun R1 => (gc_ok N t H 110 d (by omega)).1 s (a0 * 24) a1 R1) (fun s1 v2 => ?_)
  refine vSin0 10 [(3, vi v2), (0, .ref 50), (1, vi a0), (2, vi a1)] i51_9 m51 (by decide) rfl rfl ?_
  refine vLin 11 i51_10 rfl rfl ?_
  refine vK 12 i51_11 rfl ?_
  refine vCne 27 15 rfl (show w32 1 = 1 from rfl) i51_12 rfl rfl ?_ ?_
  · refine vLin 28 i51_27 rfl rfl ?_
    exact vRi i51_28 m51 rfl
  · refine vLan 16 i51_15 rfl rfl ?_
    refine vLin 17 i51_16 rfl rfl ?_
    refine vKb 19 i51_17 (by decide) rfl ?_
    refine vImul 20 i51_19 rfl ?_
    refine vLin 21 i51_20 rfl rfl ?_
    refine vCallI 24 [.ref 50, vi (a0 * 24), vi a1] [] [(0, .ref 50), (1, vi (a0 * 24)), (2, vi a1)] i51_21 rfl (xlk0 l51_34) (Or.inl rfl) m40 rfl rfl (Nat.le_of_ble_eq_true rfl) (Nat.le_of_ble_eq_true rfl) (Nat.le_of_ble_eq_true rfl) (xh0 sh_50 (by decide)) rfl rfl (fun R1 => (gc_ok N t H 110 d (by omega)).2 s1 (a0 * 24) a1 R1) (fun s3 v4 => ?_)
    refine vGo 28 i51_24 rfl ?_
    exact vRi i51_28 m51 rfl
theorem f39_18 : xFld xg 39 18 = some (3, 4) := by decide +kernel
theorem i39_59 : xIns xg 39 59 = some (.aload_n 0) := by decide +kernel
theorem i39_60 : xIns xg 39 60 = some (.lload_n 3) := by decide +kernel
theorem i39_61 : xIns xg 39 61 = some (.invokevirtual 131) := by decide +kernel
theorem i39_64 : xIns xg 39 64 = some (.goto 5) := by decide +kernel
theorem i39_69 : xIns xg 39 69 = some (.ireturn) := by decide +kernel
theorem m39 : (xMet xg 39).2.2 = (7, (some .int)) := by decide +kernel
theorem i39_48 : xIns xg 39 48 = some (.iload 5) := by decide +kernel
theorem i39_50 : xIns xg 39 50 = some (.ifCond .eq 9) := by decide +kernel
theorem i39_53 : xIns xg 39 53 = some (.iload 5) := by decide +kernel
theorem i39_55 : xIns xg 39 55 = some (.iconst 1) := by decide +kernel
theorem i39_56 : xIns xg 39 56 = some (.if_icmp .ne 11) := by decide +kernel
theorem i39_67 : xIns xg 39 67 = some (.iload 5) := by decide +kernel
theorem i39_42 : xIns xg 39 42 = some (.iinc 6 1) := by decide +kernel
theorem i39_45 : xIns xg 39 45 = some (.goto (-37)) := by decide +kernel
theorem i39_8 : xIns xg 39 8 = some (.iload 6) := by decide +kernel
theorem i39_10 : xIns xg 39 10 = some (.iload_n 2) := by decide +kernel
theorem i39_11 : xIns xg 39 11 = some (.if_icmp .ge 37) := by decide +kernel
theorem i39_14 : xIns xg 39 14 = some (.iload 5) := by decide +kernel
theorem i39_16 : xIns xg 39 16 = some (.iconst 1) := by decide +kernel
theorem i39_17 : xIns xg 39 17 = some (.if_icmp .ne 31) := by decide +kernel
theorem i39_20 : xIns xg 39 20 = some (.aload_n 0) := by decide +kernel
theorem i39_21 : xIns xg 39 21 = some (.iload_n 1) := by decide +kernel
theorem i39_22 : xIns xg 39 22 = some (.iload 6) := by decide +kernel
theorem i39_24 : xIns xg 39 24 = some (.invokevirtual 142) := by decide +kernel
theorem i39_27 : xIns xg 39 27 = some (.istore 5) := by decide +kernel
theorem i39_29 : xIns xg 39 29 = some (.iload 5) := by decide +kernel
theorem i39_31 : xIns xg 39 31 = some (.iconst 1) := by decide +kernel
theorem i39_32 : xIns xg 39 32 = some (.if_icmp .ne 10) := by decide +kernel
theorem i39_35 : xIns xg 39 35 = some (.lload_n 3) := by decide +kernel
theorem i39_36 : xIns xg 39 36 = some (.aload_n 0) := by decide +kernel
theorem i39_37 : xIns xg 39 37 = some (.getfield 18) := by decide +kernel
theorem i39_40 : xIns xg 39 40 = some (.ladd) := by decide +kernel
theorem i39_41 : xIns xg 39 41 = some (.lstore_n 3) := by decide +kernel
theorem i39_0 : xIns xg 39 0 = some (.lconst 0) := by decide +kernel
theorem i39_1 : xIns xg 39 1 = some (.lstore_n 3) := by decide +kernel
theorem i39_2 : xIns xg 39 2 = some (.iconst 1) := by decide +kernel
theorem i39_3 : xIns xg 39 3 = some (.istore 5) := by decide +kernel
theorem i39_5 : xIns xg 39 5 = some (.iconst 0) := by decide +kernel
theorem i39_6 : xIns xg 39 6 = some (.istore 6) := by decide +kernel
def d_x4_addUp_59 (N : Nat) (t : Nat)  (s : St) (x3 : Int) : Option Rs :=
  bI (d_x4_tellNumber N  s x3) fun s1 v2 => some (s1, v2)
set_option maxHeartbeats 4000000 in
set_option maxRecDepth 100000 in
theorem c_x4_addUp_59 {sc : xS} {d : Nat} {R : Rs} (N : Nat) (t : Nat) (H : isTold t) (hd : 442 ≤ d)   (s : St) (x3 : Int) : d_x4_addUp_59 N t  s x3 = some R → vT sc d 39 59 [(0, .ref 50), (3, vl x3)] [] s (fun r => r = qI R) := by
  obtain ⟨d, rfl⟩ : ∃ d', d = d' + 1 := ⟨d - 1, by omega⟩
  unfold d_x4_addUp_59
  refine vLan 60 i39_59 rfl rfl ?_
  refine vLln 61 i39_60 rfl rfl ?_
  refine vCallI 64 [.ref 50, vl x3] [] [(0, .ref 50), (1, vl x3)] i39_61 rfl (xlk0 l39_131) (Or.inl rfl) m59 rfl rfl (Nat.le_of_ble_eq_true rfl) (Nat.le_of_ble_eq_true rfl) (Nat.le_of_ble_eq_true rfl) (xh0 sh_50 (by decide)) rfl rfl (fun R1 => c_x4_tellNumber N   (by omega) s x3) (fun s1 v2 => ?_)
  refine vGo 69 i39_64 rfl ?_
  exact vRi i39_69 m39 rfl
def d_x4_addUp_48 (N : Nat) (t : Nat)  (s : St) (x3 : Int) (x5 : Int) : Option Rs :=
  (if (w32 x5) = 0 then d_x4_addUp_59 N t  s x3 else (if (w32 x5) = 1 then d_x4_addUp_59 N t  s x3 else some (s, x5)))
set_option maxHeartbeats 4000000 in
set_option maxRecDepth 100000 in
theorem c_x4_addUp_48 {sc : xS} {d : Nat} {R : Rs} (N : Nat) (t : Nat) (H : isTold t) (hd : 442 ≤ d)   (s : St) (x3 : Int) (x5 : Int) : d_x4_addUp_48 N t  s x3 x5 = some R → vT sc d 39 48 [(0, .ref 50), (3, vl x3), (5, vi x5)] [] s (fun r => r = qI R) := by
  obtain ⟨d, rfl⟩ : ∃ d', d = d' + 1 := ⟨d - 1, by omega⟩
  unfold d_x4_addUp_48
  refine vLi 50 i39_48 rfl rfl ?_
  refine vZeq 59 53 rfl i39_50 rfl rfl ?_ ?_
  · exact fun hD => tLc [(0, .ref 50), (3, vl x3)] (xNdk [0, 3] rfl (by decide)) (xNdk [0, 3, 5] rfl (by decide)) ⟨rfl, rfl, trivial⟩ (c_x4_addUp_59 N t H hd  s x3 hD)
  · refine vLi 55 i39_53 rfl rfl ?_
    refine vK 56 i39_55 rfl ?_
    refine vCne 67 59 rfl (show w32 1 = 1 from rfl) i39_56 rfl rfl ?_ ?_
    · refine vLi 69 i39_67 rfl rfl ?_
      exact vRi i39_69 m39 rfl
    · exact fun hD => tLc [(0, .ref 50), (3, vl x3)] (xNdk [0, 3] rfl (by decide)) (xNdk [0, 3, 5] rfl (by decide)) ⟨rfl, rfl, trivial⟩ (c_x4_addUp_59 N t H hd  s x3 hD)
def d_x4_addUp_42 (N : Nat) (t : Nat) (k8 : St → Int → Int → Int → Int → Int → Option Rs) (s : St) (x1 : Int) (x2 : Int) (x3 : Int) (x5 : Int) (x6 : Int) : Option Rs :=
  bd (x6 + 1) fun v3 => k8 s x1 x2 x3 x5 v3
set_option maxHeartbeats 4000000 in
set_option maxRecDepth 100000 in
theorem c_x4_addUp_42 {sc : xS} {d : Nat} {R : Rs} (N : Nat) (t : Nat) (H : isTold t) (hd : 442 ≤ d) (k8 : St → Int → Int → Int → Int → Int → Option Rs) (hk8 : ∀ (s : St) (x1 : Int) (x2 : Int) (x3 : Int) (x5 : Int) (x6 : Int), k8 s x1 x2 x3 x5 x6 = some R → vT sc d 39 8 [(0, .ref 50), (1, vi x1), (2, vi x2), (3, vl x3), (5, vi x5), (6, vi x6)] [] s (fun r => r = qI R))  (s : St) (x1 : Int) (x2 : Int) (x3 : Int) (x5 : Int) (x6 : Int) : d_x4_addUp_42 N t k8 s x1 x2 x3 x5 x6 = some R → vT sc d 39 42 [(0, .ref 50), (1, vi x1), (2, vi x2), (3, vl x3), (5, vi x5), (6, vi x6)] [] s (fun r => r = qI R) := by
  obtain ⟨d, rfl⟩ : ∃ d', d = d' + 1 := ⟨d - 1, by omega⟩
  unfold d_x4_addUp_42
  refine vInc 45 (fun v3 => [(6, vi v3), (0, .ref 50), (1, vi x1), (2, vi x2), (3, vl x3), (5, vi x5)]) i39_42 m39 (by decide) rfl (fun _ => rfl) rfl (fun v3 => ?_)
  refine vGo 8 i39_45 rfl ?_
  exact fun hD => tLc [(0, .ref 50), (1, vi x1), (2, vi x2), (3, vl x3), (5, vi x5), (6, vi v3)] (xNdk [0, 1, 2, 3, 5, 6] rfl (by decide)) (xNdk [6, 0, 1, 2, 3, 5] rfl (by decide)) ⟨rfl, rfl, rfl, rfl, rfl, rfl, trivial⟩ (hk8 s x1 x2 x3 x5 v3 hD)
def d_x4_addUp_8 (N : Nat) (t : Nat)  (k8 : St → Int → Int → Int → Int → Int → Option Rs) (s : St) (x1 : Int) (x2 : Int) (x3 : Int) (x5 : Int) (x6 : Int) : Option Rs :=
  (if (w32 x6) < (w32 x2) then (if (w32 x5) = 1 then bI (d_x4_outcome N t s x1 x6) fun s4 v5 => (if (w32 v5) = 1 then bd (x3 + (s4 50 4)) fun v6 => d_x4_addUp_42 N t k8 s4 x1 x2 v6 v5 x6 else d_x4_addUp_42 N t k8 s4 x1 x2 x3 v5 x6) else d_x4_addUp_48 N t  s x3 x5) else d_x4_addUp_48 N t  s x3 x5)
def d_x4_addUp_8L (N : Nat) (t : Nat)  : Nat → St → Int → Int → Int → Int → Int → Option Rs
  | 0 => fun _ _ _ _ _ _ => none
  | n + 1 => d_x4_addUp_8 N t  (d_x4_addUp_8L N t  n)
set_option maxHeartbeats 4000000 in
set_option maxRecDepth 100000 in
theorem c_x4_addUp_8 {sc : xS} {d : Nat} {R : Rs} (N : Nat) (t : Nat) (H : isTold t) (hd : 442 ≤ d)   (k8 : St → Int → Int → Int → Int → Int → Option Rs) (hk8 : ∀ (s : St) (x1 : Int) (x2 : Int) (x3 : Int) (x5 : Int) (x6 : Int), k8 s x1 x2 x3 x5 x6 = some R → vT sc d 39 8 [(0, .ref 50), (1, vi x1), (2, vi x2), (3, vl x3), (5, vi x5), (6, vi x6)] [] s (fun r => r = qI R)) (s : St) (x1 : Int) (x2 : Int) (x3 : Int) (x5 : Int) (x6 : Int) : d_x4_addUp_8 N t  k8 s x1 x2 x3 x5 x6 = some R → vT sc d 39 8 [(0, .ref 50), (1, vi x1), (2, vi x2), (3, vl x3), (5, vi x5), (6, vi x6)] [] s (fun r => r = qI R) := by
  obtain ⟨d, rfl⟩ : ∃ d', d = d' + 1 := ⟨d - 1, by omega⟩
  unfold d_x4_addUp_8
  refine vLi 10 i39_8 rfl rfl ?_
  refine vLin 11 i39_10 rfl rfl ?_
  refine vCge 48 14 rfl rfl i39_11 rfl rfl ?_ ?_
  · exact fun hD => tLc [(0, .ref 50), (3, vl x3), (5, vi x5)] (xNdk [0, 3, 5] rfl (by decide)) (xNdk [0, 1, 2, 3, 5, 6] rfl (by decide)) ⟨rfl, rfl, rfl, trivial⟩ (c_x4_addUp_48 N t H hd  s x3 x5 hD)
  · refine vLi 16 i39_14 rfl rfl ?_
    refine vK 17 i39_16 rfl ?_
    refine vCne 48 20 rfl (show w32 1 = 1 from rfl) i39_17 rfl rfl ?_ ?_
    · exact fun hD => tLc [(0, .ref 50), (3, vl x3), (5, vi x5)] (xNdk [0, 3, 5] rfl (by decide)) (xNdk [0, 1, 2, 3, 5, 6] rfl (by decide)) ⟨rfl, rfl, rfl, trivial⟩ (c_x4_addUp_48 N t H hd  s x3 x5 hD)
    · refine vLan 21 i39_20 rfl rfl ?_
      refine vLin 22 i39_21 rfl rfl ?_
      refine vLi 24 i39_22 rfl rfl ?_
      refine vCallI 27 [.ref 50, vi x1, vi x6] [] [(0, .ref 50), (1, vi x1), (2, vi x6)] i39_24 rfl (xlk0 l39_142) (Or.inl rfl) m51 rfl rfl (Nat.le_of_ble_eq_true rfl) (Nat.le_of_ble_eq_true rfl) (Nat.le_of_ble_eq_true rfl) (xh0 sh_50 (by decide)) rfl rfl (fun R1 => c_x4_outcome N t H (by omega) s x1 x6) (fun s4 v5 => ?_)
      refine vSi0 29 [(5, vi v5), (0, .ref 50), (1, vi x1), (2, vi x2), (3, vl x3), (6, vi x6)] i39_27 m39 (by decide) rfl rfl ?_
      refine vLi 31 i39_29 rfl rfl ?_
      refine vK 32 i39_31 rfl ?_
      refine vCne 42 35 rfl (show w32 1 = 1 from rfl) i39_32 rfl rfl ?_ ?_
      · exact fun hD => tLc [(0, .ref 50), (1, vi x1), (2, vi x2), (3, vl x3), (5, vi v5), (6, vi x6)] (xNdk [0, 1, 2, 3, 5, 6] rfl (by decide)) (xNdk [5, 0, 1, 2, 3, 6] rfl (by decide)) ⟨rfl, rfl, rfl, rfl, rfl, rfl, trivial⟩ (c_x4_addUp_42 N t H hd k8 hk8 s4 x1 x2 x3 v5 x6 hD)
      · refine vLln 36 i39_35 rfl rfl ?_
        refine vLan 37 i39_36 rfl rfl ?_
        refine vGetL 40 i39_37 f39_18 sh_50 rfl rfl ?_
        refine vLadd 41 i39_40 rfl ?_
        refine vSln 42 (fun v6 => [(3, vl v6), (5, vi v5), (0, .ref 50), (1, vi x1), (2, vi x2), (6, vi x6)]) i39_41 m39 (by decide) (fun v6 => (rfl : xst2 [(5, vi v5), (0, .ref 50), (1, vi x1), (2, vi x2), (3, vl x3), (6, vi x6)] 3 (vl v6) = [(3, vl v6), (5, vi v5), (0, .ref 50), (1, vi x1), (2, vi x2), (6, vi x6)])) rfl (fun v6 => ?_)
        exact fun hD => tLc [(0, .ref 50), (1, vi x1), (2, vi x2), (3, vl v6), (5, vi v5), (6, vi x6)] (xNdk [0, 1, 2, 3, 5, 6] rfl (by decide)) (xNdk [3, 5, 0, 1, 2, 6] rfl (by decide)) ⟨rfl, rfl, rfl, rfl, rfl, rfl, trivial⟩ (c_x4_addUp_42 N t H hd k8 hk8 s4 x1 x2 v6 v5 x6 hD)
theorem c_x4_addUp_8L {sc : xS} {d : Nat} {R : Rs} (N : Nat) (t : Nat) (H : isTold t) (hd : 442 ≤ d)   : ∀ (n : Nat) (s : St) (x1 : Int) (x2 : Int) (x3 : Int) (x5 : Int) (x6 : Int), d_x4_addUp_8L N t  n s x1 x2 x3 x5 x6 = some R → vT sc d 39 8 [(0, .ref 50), (1, vi x1), (2, vi x2), (3, vl x3), (5, vi x5), (6, vi x6)] [] s (fun r => r = qI R) := by
  intro n
  induction n with
  | zero => intro s x1 x2 x3 x5 x6 hD; cases hD
  | succ n ih => intro s x1 x2 x3 x5 x6 hD; exact c_x4_addUp_8 N t H hd  _ ih s x1 x2 x3 x5 x6 hD
def d_x4_addUp (N : Nat) (t : Nat)  (s : St) (a0 : Int) (a1 : Int) : Option Rs :=
  d_x4_addUp_8L N t  N s a0 a1 0 1 0
set_option maxHeartbeats 4000000 in
set_option maxRecDepth 100000 in
theorem c_x4_addUp {sc : xS} {d : Nat} {R : Rs} (N : Nat) (t : Nat) (H : isTold t) (hd : 442 ≤ d)   (s : St) (a0 : Int) (a1 : Int) : d_x4_addUp N t  s a0 a1 = some R → vT sc d 39 0 [(0, .ref 50), (1, vi a0), (2, vi a1)] [] s (fun r => r = qI R) := by
  obtain ⟨d, rfl⟩ : ∃ d', d = d' + 1 := ⟨d - 1, by omega⟩
  unfold d_x4_addUp
  refine vKl 1 0 i39_0 (by decide) rfl ?_
  refine vSln0w 2 [(3, vl 0), (0, .ref 50), (1, vi a0), (2, vi a1)] i39_1 m39 (by decide) rfl rfl ?_
  refine vK 3 i39_2 rfl ?_
  refine vSi0 5 [(5, vi 1), (3, vl 0), (0, .ref 50), (1, vi a0), (2, vi a1)] i39_3 m39 (by decide) rfl rfl ?_
  refine vK 6 i39_5 rfl ?_
  refine vSi0 8 [(6, vi 0), (5, vi 1), (3, vl 0), (0, .ref 50), (1, vi a0), (2, vi a1)] i39_6 m39 (by decide) rfl rfl ?_
  exact fun hD => tLc [(0, .ref 50), (1, vi a0), (2, vi a1), (3, vl 0), (5, vi 1), (6, vi 0)] (xNdk [0, 1, 2, 3, 5, 6] rfl (by decide)) (xNdk [6, 5, 3, 0, 1, 2] rfl (by decide)) ⟨rfl, rfl, rfl, rfl, rfl, rfl, trivial⟩ (c_x4_addUp_8L N t H hd  N s a0 a1 0 1 0 hD)
theorem f54_18 : xFld xg 54 18 = some (3, 4) := by decide +kernel
theorem i54_3 : xIns xg 54 3 = some (.iload 5) := by decide +kernel
theorem i54_5 : xIns xg 54 5 = some (.iload 4) := by decide +kernel
theorem i54_7 : xIns xg 54 7 = some (.if_icmp .ge 48) := by decide +kernel
theorem i54_55 : xIns xg 54 55 = some (.iconst (-1)) := by decide +kernel
theorem i54_56 : xIns xg 54 56 = some (.ireturn) := by decide +kernel
theorem m54 : (xMet xg 54).2.2 = (7, (some .int)) := by decide +kernel
theorem i54_10 : xIns xg 54 10 = some (.aload_n 0) := by decide +kernel
theorem i54_11 : xIns xg 54 11 = some (.iload_n 1) := by decide +kernel
theorem i54_12 : xIns xg 54 12 = some (.iload 5) := by decide +kernel
theorem i54_14 : xIns xg 54 14 = some (.invokevirtual 142) := by decide +kernel
theorem i54_17 : xIns xg 54 17 = some (.istore 6) := by decide +kernel
theorem i54_19 : xIns xg 54 19 = some (.iload 6) := by decide +kernel
theorem i54_21 : xIns xg 54 21 = some (.bipush (-6)) := by decide +kernel
theorem i54_23 : xIns xg 54 23 = some (.if_icmp .ne 6) := by decide +kernel
theorem i54_29 : xIns xg 54 29 = some (.iload 6) := by decide +kernel
theorem i54_31 : xIns xg 54 31 = some (.iconst 1) := by decide +kernel
theorem i54_32 : xIns xg 54 32 = some (.if_icmp .eq 5) := by decide +kernel
theorem i54_37 : xIns xg 54 37 = some (.aload_n 0) := by decide +kernel
theorem i54_38 : xIns xg 54 38 = some (.getfield 18) := by decide +kernel
theorem i54_41 : xIns xg 54 41 = some (.lload_n 2) := by decide +kernel
theorem i54_42 : xIns xg 54 42 = some (.lcmp) := by decide +kernel
theorem i54_43 : xIns xg 54 43 = some (.ifCond .ne 6) := by decide +kernel
theorem i54_49 : xIns xg 54 49 = some (.iinc 5 1) := by decide +kernel
theorem i54_52 : xIns xg 54 52 = some (.goto (-49)) := by decide +kernel
theorem i54_46 : xIns xg 54 46 = some (.iload 5) := by decide +kernel
theorem i54_48 : xIns xg 54 48 = some (.ireturn) := by decide +kernel
theorem i54_35 : xIns xg 54 35 = some (.iconst (-1)) := by decide +kernel
theorem i54_36 : xIns xg 54 36 = some (.ireturn) := by decide +kernel
theorem i54_26 : xIns xg 54 26 = some (.bipush (-6)) := by decide +kernel
theorem i54_28 : xIns xg 54 28 = some (.ireturn) := by decide +kernel
theorem i54_0 : xIns xg 54 0 = some (.iconst 0) := by decide +kernel
theorem i54_1 : xIns xg 54 1 = some (.istore 5) := by decide +kernel
def d_x4_placeOf_3 (N : Nat) (t : Nat)  (k3 : St → Int → Int → Int → Int → Option Rs) (s : St) (x1 : Int) (x2 : Int) (x4 : Int) (x5 : Int) : Option Rs :=
  (if (w32 x5) < (w32 x4) then bI (d_x4_outcome N t s x1 x5) fun s1 v2 => (if (w32 v2) = (-6) then some (s1, (-6)) else (if (w32 v2) = 1 then (if (w64 (s1 50 4)) = (w64 x2) then some (s1, x5) else bd (x5 + 1) fun v3 => k3 s1 x1 x2 x4 v3) else some (s1, (-1)))) else some (s, (-1)))
def d_x4_placeOf_3L (N : Nat) (t : Nat)  : Nat → St → Int → Int → Int → Int → Option Rs
  | 0 => fun _ _ _ _ _ => none
  | n + 1 => d_x4_placeOf_3 N t  (d_x4_placeOf_3L N t  n)
set_option maxHeartbeats 4000000 in
set_option maxRecDepth 100000 in
theorem c_x4_placeOf_3 {sc : xS} {d : Nat} {R : Rs} (N : Nat) (t : Nat) (H : isTold t) (hd : 442 ≤ d)   (k3 : St → Int → Int → Int → Int → Option Rs) (hk3 : ∀ (s : St) (x1 : Int) (x2 : Int) (x4 : Int) (x5 : Int), k3 s x1 x2 x4 x5 = some R → vT sc d 54 3 [(0, .ref 50), (1, vi x1), (2, vl x2), (4, vi x4), (5, vi x5)] [] s (fun r => r = qI R)) (s : St) (x1 : Int) (x2 : Int) (x4 : Int) (x5 : Int) : d_x4_placeOf_3 N t  k3 s x1 x2 x4 x5 = some R → vT sc d 54 3 [(0, .ref 50), (1, vi x1), (2, vl x2), (4, vi x4), (5, vi x5)] [] s (fun r => r = qI R) := by
  obtain ⟨d, rfl⟩ : ∃ d', d = d' + 1 := ⟨d - 1, by omega⟩
  unfold d_x4_placeOf_3
  refine vLi 5 i54_3 rfl rfl ?_
  refine vLi 7 i54_5 rfl rfl ?_
  refine vCge 55 10 rfl rfl i54_7 rfl rfl ?_ ?_
  · refine vK 56 i54_55 rfl ?_
    exact vRi i54_56 m54 rfl
  · refine vLan 11 i54_10 rfl rfl ?_
    refine vLin 12 i54_11 rfl rfl ?_
    refine vLi 14 i54_12 rfl rfl ?_
    refine vCallI 17 [.ref 50, vi x1, vi x5] [] [(0, .ref 50), (1, vi x1), (2, vi x5)] i54_14 rfl (xlk0 l54_142) (Or.inl rfl) m51 rfl rfl (Nat.le_of_ble_eq_true rfl) (Nat.le_of_ble_eq_true rfl) (Nat.le_of_ble_eq_true rfl) (xh0 sh_50 (by decide)) rfl rfl (fun R1 => c_x4_outcome N t H (by omega) s x1 x5) (fun s1 v2 => ?_)
    refine vSi0 19 [(6, vi v2), (0, .ref 50), (1, vi x1), (2, vl x2), (4, vi x4), (5, vi x5)] i54_17 m54 (by decide) rfl rfl ?_
    refine vLi 21 i54_19 rfl rfl ?_
    refine vKb 23 i54_21 (by decide) rfl ?_
    refine vCne 29 26 rfl (show w32 (-6) = (-6) from rfl) i54_23 rfl rfl ?_ ?_
    · refine vLi 31 i54_29 rfl rfl ?_
      refine vK 32 i54_31 rfl ?_
      refine vCeq 37 35 rfl (show w32 1 = 1 from rfl) i54_32 rfl rfl ?_ ?_
      · refine vLan 38 i54_37 rfl rfl ?_
        refine vGetL 41 i54_38 f54_18 sh_50 rfl rfl ?_
        refine vLln 42 i54_41 rfl rfl ?_
        refine vLcne 49 43 46 rfl rfl i54_42 rfl i54_43 rfl rfl ?_ ?_
        · refine vInc 52 (fun v3 => [(5, vi v3), (6, vi v2), (0, .ref 50), (1, vi x1), (2, vl x2), (4, vi x4)]) i54_49 m54 (by decide) rfl (fun _ => rfl) rfl (fun v3 => ?_)
          refine vGo 3 i54_52 rfl ?_
          exact fun hD => tLc [(0, .ref 50), (1, vi x1), (2, vl x2), (4, vi x4), (5, vi v3)] (xNdk [0, 1, 2, 4, 5] rfl (by decide)) (xNdk [5, 6, 0, 1, 2, 4] rfl (by decide)) ⟨rfl, rfl, rfl, rfl, rfl, trivial⟩ (hk3 s1 x1 x2 x4 v3 hD)
        · refine vLi 48 i54_46 rfl rfl ?_
          exact vRi i54_48 m54 rfl
      · refine vK 36 i54_35 rfl ?_
        exact vRi i54_36 m54 rfl
    · refine vKb 28 i54_26 (by decide) rfl ?_
      exact vRi i54_28 m54 rfl
theorem c_x4_placeOf_3L {sc : xS} {d : Nat} {R : Rs} (N : Nat) (t : Nat) (H : isTold t) (hd : 442 ≤ d)   : ∀ (n : Nat) (s : St) (x1 : Int) (x2 : Int) (x4 : Int) (x5 : Int), d_x4_placeOf_3L N t  n s x1 x2 x4 x5 = some R → vT sc d 54 3 [(0, .ref 50), (1, vi x1), (2, vl x2), (4, vi x4), (5, vi x5)] [] s (fun r => r = qI R) := by
  intro n
  induction n with
  | zero => intro s x1 x2 x4 x5 hD; cases hD
  | succ n ih => intro s x1 x2 x4 x5 hD; exact c_x4_placeOf_3 N t H hd  _ ih s x1 x2 x4 x5 hD
def d_x4_placeOf (N : Nat) (t : Nat)  (s : St) (a0 : Int) (a1 : Int) (a2 : Int) : Option Rs :=
  d_x4_placeOf_3L N t  N s a0 a1 a2 0
set_option maxHeartbeats 4000000 in
set_option maxRecDepth 100000 in
theorem c_x4_placeOf {sc : xS} {d : Nat} {R : Rs} (N : Nat) (t : Nat) (H : isTold t) (hd : 442 ≤ d)   (s : St) (a0 : Int) (a1 : Int) (a2 : Int) : d_x4_placeOf N t  s a0 a1 a2 = some R → vT sc d 54 0 [(0, .ref 50), (1, vi a0), (2, vl a1), (4, vi a2)] [] s (fun r => r = qI R) := by
  obtain ⟨d, rfl⟩ : ∃ d', d = d' + 1 := ⟨d - 1, by omega⟩
  unfold d_x4_placeOf
  refine vK 1 i54_0 rfl ?_
  refine vSi0 3 [(5, vi 0), (0, .ref 50), (1, vi a0), (2, vl a1), (4, vi a2)] i54_1 m54 (by decide) rfl rfl ?_
  exact fun hD => tLc [(0, .ref 50), (1, vi a0), (2, vl a1), (4, vi a2), (5, vi 0)] (xNdk [0, 1, 2, 4, 5] rfl (by decide)) (xNdk [5, 0, 1, 2, 4] rfl (by decide)) ⟨rfl, rfl, rfl, rfl, rfl, trivial⟩ (c_x4_placeOf_3L N t H hd  N s a0 a1 a2 0 hD)
theorem f46_18 : xFld xg 46 18 = some (3, 4) := by decide +kernel
theorem i46_79 : xIns xg 46 79 = some (.iload 5) := by decide +kernel
theorem i46_81 : xIns xg 46 81 = some (.iconst 1) := by decide +kernel
theorem i46_82 : xIns xg 46 82 = some (.if_icmp .eq 5) := by decide +kernel
theorem i46_87 : xIns xg 46 87 = some (.iinc 4 1) := by decide +kernel
theorem m46 : (xMet xg 46).2.2 = (9, (some .int)) := by decide +kernel
theorem i46_90 : xIns xg 46 90 = some (.goto (-87)) := by decide +kernel
theorem i46_85 : xIns xg 46 85 = some (.iconst (-1)) := by decide +kernel
theorem i46_86 : xIns xg 46 86 = some (.ireturn) := by decide +kernel
theorem i46_3 : xIns xg 46 3 = some (.iload 4) := by decide +kernel
theorem i46_5 : xIns xg 46 5 = some (.iload_n 3) := by decide +kernel
theorem i46_6 : xIns xg 46 6 = some (.if_icmp .ge 87) := by decide +kernel
theorem i46_93 : xIns xg 46 93 = some (.iconst (-1)) := by decide +kernel
theorem i46_94 : xIns xg 46 94 = some (.ireturn) := by decide +kernel
theorem i46_9 : xIns xg 46 9 = some (.aload_n 0) := by decide +kernel
theorem i46_10 : xIns xg 46 10 = some (.iload_n 1) := by decide +kernel
theorem i46_11 : xIns xg 46 11 = some (.iload 4) := by decide +kernel
theorem i46_13 : xIns xg 46 13 = some (.invokevirtual 142) := by decide +kernel
theorem i46_16 : xIns xg 46 16 = some (.istore 5) := by decide +kernel
theorem i46_18 : xIns xg 46 18 = some (.iload 5) := by decide +kernel
theorem i46_20 : xIns xg 46 20 = some (.bipush (-6)) := by decide +kernel
theorem i46_22 : xIns xg 46 22 = some (.if_icmp .ne 6) := by decide +kernel
theorem i46_28 : xIns xg 46 28 = some (.aload_n 0) := by decide +kernel
theorem i46_29 : xIns xg 46 29 = some (.getfield 18) := by decide +kernel
theorem i46_32 : xIns xg 46 32 = some (.lstore 6) := by decide +kernel
theorem i46_34 : xIns xg 46 34 = some (.aload_n 0) := by decide +kernel
theorem i46_35 : xIns xg 46 35 = some (.iload_n 2) := by decide +kernel
theorem i46_36 : xIns xg 46 36 = some (.iload 4) := by decide +kernel
theorem i46_38 : xIns xg 46 38 = some (.invokevirtual 142) := by decide +kernel
theorem i46_41 : xIns xg 46 41 = some (.istore 8) := by decide +kernel
theorem i46_43 : xIns xg 46 43 = some (.iload 8) := by decide +kernel
theorem i46_45 : xIns xg 46 45 = some (.bipush (-6)) := by decide +kernel
theorem i46_47 : xIns xg 46 47 = some (.if_icmp .ne 6) := by decide +kernel
theorem i46_53 : xIns xg 46 53 = some (.iload 5) := by decide +kernel
theorem i46_55 : xIns xg 46 55 = some (.iload 8) := by decide +kernel
theorem i46_57 : xIns xg 46 57 = some (.if_icmp .ne 19) := by decide +kernel
theorem i46_76 : xIns xg 46 76 = some (.iload 4) := by decide +kernel
theorem i46_78 : xIns xg 46 78 = some (.ireturn) := by decide +kernel
theorem i46_60 : xIns xg 46 60 = some (.iload 5) := by decide +kernel
theorem i46_62 : xIns xg 46 62 = some (.iconst 1) := by decide +kernel
theorem i46_63 : xIns xg 46 63 = some (.if_icmp .ne 16) := by decide +kernel
theorem i46_66 : xIns xg 46 66 = some (.lload 6) := by decide +kernel
theorem i46_68 : xIns xg 46 68 = some (.aload_n 0) := by decide +kernel
theorem i46_69 : xIns xg 46 69 = some (.getfield 18) := by decide +kernel
theorem i46_72 : xIns xg 46 72 = some (.lcmp) := by decide +kernel
theorem i46_73 : xIns xg 46 73 = some (.ifCond .eq 6) := by decide +kernel
theorem i46_50 : xIns xg 46 50 = some (.bipush (-6)) := by decide +kernel
theorem i46_52 : xIns xg 46 52 = some (.ireturn) := by decide +kernel
theorem i46_25 : xIns xg 46 25 = some (.bipush (-6)) := by decide +kernel
theorem i46_27 : xIns xg 46 27 = some (.ireturn) := by decide +kernel
theorem i46_0 : xIns xg 46 0 = some (.iconst 0) := by decide +kernel
theorem i46_1 : xIns xg 46 1 = some (.istore 4) := by decide +kernel
def d_x4_firstUnlike_79 (N : Nat) (t : Nat) (k3 : St → Int → Int → Int → Int → Option Rs) (s : St) (x1 : Int) (x2 : Int) (x3 : Int) (x4 : Int) (x5 : Int) : Option Rs :=
  (if (w32 x5) = 1 then bd (x4 + 1) fun v1 => k3 s x1 x2 x3 v1 else some (s, (-1)))
set_option maxHeartbeats 4000000 in
set_option maxRecDepth 100000 in
theorem c_x4_firstUnlike_79 {sc : xS} {d : Nat} {R : Rs} (N : Nat) (t : Nat) (H : isTold t) (hd : 442 ≤ d) (k3 : St → Int → Int → Int → Int → Option Rs) (hk3 : ∀ (s : St) (x1 : Int) (x2 : Int) (x3 : Int) (x4 : Int), k3 s x1 x2 x3 x4 = some R → vT sc d 46 3 [(0, .ref 50), (1, vi x1), (2, vi x2), (3, vi x3), (4, vi x4)] [] s (fun r => r = qI R))  (s : St) (x1 : Int) (x2 : Int) (x3 : Int) (x4 : Int) (x5 : Int) : d_x4_firstUnlike_79 N t k3 s x1 x2 x3 x4 x5 = some R → vT sc d 46 79 [(0, .ref 50), (1, vi x1), (2, vi x2), (3, vi x3), (4, vi x4), (5, vi x5)] [] s (fun r => r = qI R) := by
  obtain ⟨d, rfl⟩ : ∃ d', d = d' + 1 := ⟨d - 1, by omega⟩
  unfold d_x4_firstUnlike_79
  refine vLi 81 i46_79 rfl rfl ?_
  refine vK 82 i46_81 rfl ?_
  refine vCeq 87 85 rfl (show w32 1 = 1 from rfl) i46_82 rfl rfl ?_ ?_
  · refine vInc 90 (fun v1 => [(4, vi v1), (0, .ref 50), (1, vi x1), (2, vi x2), (3, vi x3), (5, vi x5)]) i46_87 m46 (by decide) rfl (fun _ => rfl) rfl (fun v1 => ?_)
    refine vGo 3 i46_90 rfl ?_
    exact fun hD => tLc [(0, .ref 50), (1, vi x1), (2, vi x2), (3, vi x3), (4, vi v1)] (xNdk [0, 1, 2, 3, 4] rfl (by decide)) (xNdk [4, 0, 1, 2, 3, 5] rfl (by decide)) ⟨rfl, rfl, rfl, rfl, rfl, trivial⟩ (hk3 s x1 x2 x3 v1 hD)
  · refine vK 86 i46_85 rfl ?_
    exact vRi i46_86 m46 rfl
def d_x4_firstUnlike_3 (N : Nat) (t : Nat)  (k3 : St → Int → Int → Int → Int → Option Rs) (s : St) (x1 : Int) (x2 : Int) (x3 : Int) (x4 : Int) : Option Rs :=
  (if (w32 x4) < (w32 x3) then bI (d_x4_outcome N t s x1 x4) fun s2 v3 => (if (w32 v3) = (-6) then some (s2, (-6)) else bd (s2 50 4) fun v4 => bI (d_x4_outcome N t s2 x2 x4) fun s5 v6 => (if (w32 v6) = (-6) then some (s5, (-6)) else (if (w32 v3) = (w32 v6) then (if (w32 v3) = 1 then (if (w64 v4) = (w64 (s5 50 4)) then d_x4_firstUnlike_79 N t k3 s5 x1 x2 x3 x4 v3 else some (s5, x4)) else d_x4_firstUnlike_79 N t k3 s5 x1 x2 x3 x4 v3) else some (s5, x4)))) else some (s, (-1)))
def d_x4_firstUnlike_3L (N : Nat) (t : Nat)  : Nat → St → Int → Int → Int → Int → Option Rs
  | 0 => fun _ _ _ _ _ => none
  | n + 1 => d_x4_firstUnlike_3 N t  (d_x4_firstUnlike_3L N t  n)
set_option maxHeartbeats 4000000 in
set_option maxRecDepth 100000 in
theorem c_x4_firstUnlike_3 {sc : xS} {d : Nat} {R : Rs} (N : Nat) (t : Nat) (H : isTold t) (hd : 442 ≤ d)   (k3 : St → Int → Int → Int → Int → Option Rs) (hk3 : ∀ (s : St) (x1 : Int) (x2 : Int) (x3 : Int) (x4 : Int), k3 s x1 x2 x3 x4 = some R → vT sc d 46 3 [(0, .ref 50), (1, vi x1), (2, vi x2), (3, vi x3), (4, vi x4)] [] s (fun r => r = qI R)) (s : St) (x1 : Int) (x2 : Int) (x3 : Int) (x4 : Int) : d_x4_firstUnlike_3 N t  k3 s x1 x2 x3 x4 = some R → vT sc d 46 3 [(0, .ref 50), (1, vi x1), (2, vi x2), (3, vi x3), (4, vi x4)] [] s (fun r => r = qI R) := by
  obtain ⟨d, rfl⟩ : ∃ d', d = d' + 1 := ⟨d - 1, by omega⟩
  unfold d_x4_firstUnlike_3
  refine vLi 5 i46_3 rfl rfl ?_
  refine vLin 6 i46_5 rfl rfl ?_
  refine vCge 93 9 rfl rfl i46_6 rfl rfl ?_ ?_
  · refine vK 94 i46_93 rfl ?_
    exact vRi i46_94 m46 rfl
  · refine vLan 10 i46_9 rfl rfl ?_
    refine vLin 11 i46_10 rfl rfl ?_
    refine vLi 13 i46_11 rfl rfl ?_
    refine vCallI 16 [.ref 50, vi x1, vi x4] [] [(0, .ref 50), (1, vi x1), (2, vi x4)] i46_13 rfl (xlk0 l46_142) (Or.inl rfl) m51 rfl rfl (Nat.le_of_ble_eq_true rfl) (Nat.le_of_ble_eq_true rfl) (Nat.le_of_ble_eq_true rfl) (xh0 sh_50 (by decide)) rfl rfl (fun R1 => c_x4_outcome N t H (by omega) s x1 x4) (fun s2 v3 => ?_)
    refine vSi0 18 [(5, vi v3), (0, .ref 50), (1, vi x1), (2, vi x2), (3, vi x3), (4, vi x4)] i46_16 m46 (by decide) rfl rfl ?_
    refine vLi 20 i46_18 rfl rfl ?_
    refine vKb 22 i46_20 (by decide) rfl ?_
    refine vCne 28 25 rfl (show w32 (-6) = (-6) from rfl) i46_22 rfl rfl ?_ ?_
    · refine vLan 29 i46_28 rfl rfl ?_
      refine vGetL 32 i46_29 f46_18 sh_50 rfl rfl ?_
      refine vSl 34 (fun v4 => [(6, vl v4), (5, vi v3), (0, .ref 50), (1, vi x1), (2, vi x2), (3, vi x3), (4, vi x4)]) i46_32 m46 (by decide) (fun v4 => (rfl : xst2 [(5, vi v3), (0, .ref 50), (1, vi x1), (2, vi x2), (3, vi x3), (4, vi x4)] 6 (vl v4) = [(6, vl v4), (5, vi v3), (0, .ref 50), (1, vi x1), (2, vi x2), (3, vi x3), (4, vi x4)])) rfl (fun v4 => ?_)
      refine vLan 35 i46_34 rfl rfl ?_
      refine vLin 36 i46_35 rfl rfl ?_
      refine vLi 38 i46_36 rfl rfl ?_
      refine vCallI 41 [.ref 50, vi x2, vi x4] [] [(0, .ref 50), (1, vi x2), (2, vi x4)] i46_38 rfl (xlk0 l46_142) (Or.inl rfl) m51 rfl rfl (Nat.le_of_ble_eq_true rfl) (Nat.le_of_ble_eq_true rfl) (Nat.le_of_ble_eq_true rfl) (xh0 sh_50 (by decide)) rfl rfl (fun R1 => c_x4_outcome N t H (by omega) s2 x2 x4) (fun s5 v6 => ?_)
      refine vSi0 43 [(8, vi v6), (6, vl v4), (5, vi v3), (0, .ref 50), (1, vi x1), (2, vi x2), (3, vi x3), (4, vi x4)] i46_41 m46 (by decide) rfl rfl ?_
      refine vLi 45 i46_43 rfl rfl ?_
      refine vKb 47 i46_45 (by decide) rfl ?_
      refine vCne 53 50 rfl (show w32 (-6) = (-6) from rfl) i46_47 rfl rfl ?_ ?_
      · refine vLi 55 i46_53 rfl rfl ?_
        refine vLi 57 i46_55 rfl rfl ?_
        refine vCne 76 60 rfl rfl i46_57 rfl rfl ?_ ?_
        · refine vLi 78 i46_76 rfl rfl ?_
          exact vRi i46_78 m46 rfl
        · refine vLi 62 i46_60 rfl rfl ?_
          refine vK 63 i46_62 rfl ?_
          refine vCne 79 66 rfl (show w32 1 = 1 from rfl) i46_63 rfl rfl ?_ ?_
          · exact fun hD => tLc [(0, .ref 50), (1, vi x1), (2, vi x2), (3, vi x3), (4, vi x4), (5, vi v3)] (xNdk [0, 1, 2, 3, 4, 5] rfl (by decide)) (xNdk [8, 6, 5, 0, 1, 2, 3, 4] rfl (by decide)) ⟨rfl, rfl, rfl, rfl, rfl, rfl, trivial⟩ (c_x4_firstUnlike_79 N t H hd k3 hk3 s5 x1 x2 x3 x4 v3 hD)
          · refine vLl 68 i46_66 rfl rfl ?_
            refine vLan 69 i46_68 rfl rfl ?_
            refine vGetL 72 i46_69 f46_18 sh_50 rfl rfl ?_
            refine vLceq 79 73 76 rfl rfl i46_72 rfl i46_73 rfl rfl ?_ ?_
            · exact fun hD => tLc [(0, .ref 50), (1, vi x1), (2, vi x2), (3, vi x3), (4, vi x4), (5, vi v3)] (xNdk [0, 1, 2, 3, 4, 5] rfl (by decide)) (xNdk [8, 6, 5, 0, 1, 2, 3, 4] rfl (by decide)) ⟨rfl, rfl, rfl, rfl, rfl, rfl, trivial⟩ (c_x4_firstUnlike_79 N t H hd k3 hk3 s5 x1 x2 x3 x4 v3 hD)
            · refine vLi 78 i46_76 rfl rfl ?_
              exact vRi i46_78 m46 rfl
      · refine vKb 52 i46_50 (by decide) rfl ?_
        exact vRi i46_52 m46 rfl
    · refine vKb 27 i46_25 (by decide) rfl ?_
      exact vRi i46_27 m46 rfl
theorem c_x4_firstUnlike_3L {sc : xS} {d : Nat} {R : Rs} (N : Nat) (t : Nat) (H : isTold t) (hd : 442 ≤ d)   : ∀ (n : Nat) (s : St) (x1 : Int) (x2 : Int) (x3 : Int) (x4 : Int), d_x4_firstUnlike_3L N t  n s x1 x2 x3 x4 = some R → vT sc d 46 3 [(0, .ref 50), (1, vi x1), (2, vi x2), (3, vi x3), (4, vi x4)] [] s (fun r => r = qI R) := by
  intro n
  induction n with
  | zero => intro s x1 x2 x3 x4 hD; cases hD
  | succ n ih => intro s x1 x2 x3 x4 hD; exact c_x4_firstUnlike_3 N t H hd  _ ih s x1 x2 x3 x4 hD
def d_x4_firstUnlike (N : Nat) (t : Nat)  (s : St) (a0 : Int) (a1 : Int) (a2 : Int) : Option Rs :=
  d_x4_firstUnlike_3L N t  N s a0 a1 a2 0
set_option maxHeartbeats 4000000 in
set_option maxRecDepth 100000 in
theorem c_x4_firstUnlike {sc : xS} {d : Nat} {R : Rs} (N : Nat) (t : Nat) (H : isTold t) (hd : 442 ≤ d)   (s : St) (a0 : Int) (a1 : Int) (a2 : Int) : d_x4_firstUnlike N t  s a0 a1 a2 = some R → vT sc d 46 0 [(0, .ref 50), (1, vi a0), (2, vi a1), (3, vi a2)] [] s (fun r => r = qI R) := by
  obtain ⟨d, rfl⟩ : ∃ d', d = d' + 1 := ⟨d - 1, by omega⟩
  unfold d_x4_firstUnlike
  refine vK 1 i46_0 rfl ?_
  refine vSi0 3 [(4, vi 0), (0, .ref 50), (1, vi a0), (2, vi a1), (3, vi a2)] i46_1 m46 (by decide) rfl rfl ?_
  exact fun hD => tLc [(0, .ref 50), (1, vi a0), (2, vi a1), (3, vi a2), (4, vi 0)] (xNdk [0, 1, 2, 3, 4] rfl (by decide)) (xNdk [4, 0, 1, 2, 3] rfl (by decide)) ⟨rfl, rfl, rfl, rfl, rfl, trivial⟩ (c_x4_firstUnlike_3L N t H hd  N s a0 a1 a2 0 hD)
theorem f55_18 : xFld xg 55 18 = some (3, 4) := by decide +kernel
theorem i55_54 : xIns xg 55 54 = some (.aload_n 0) := by decide +kernel
theorem i55_55 : xIns xg 55 55 = some (.getfield 18) := by decide +kernel
theorem i55_58 : xIns xg 55 58 = some (.lstore_n 2) := by decide +kernel
theorem m55 : (xMet xg 55).2.2 = (6, (some .int)) := by decide +kernel
theorem i55_59 : xIns xg 55 59 = some (.iinc 4 1) := by decide +kernel
theorem i55_62 : xIns xg 55 62 = some (.goto (-57)) := by decide +kernel
theorem i55_5 : xIns xg 55 5 = some (.iload 4) := by decide +kernel
theorem i55_7 : xIns xg 55 7 = some (.bipush 64) := by decide +kernel
theorem i55_9 : xIns xg 55 9 = some (.if_icmp .ge 56) := by decide +kernel
theorem i55_65 : xIns xg 55 65 = some (.bipush 64) := by decide +kernel
theorem i55_67 : xIns xg 55 67 = some (.ireturn) := by decide +kernel
theorem i55_12 : xIns xg 55 12 = some (.aload_n 0) := by decide +kernel
theorem i55_13 : xIns xg 55 13 = some (.iload_n 1) := by decide +kernel
theorem i55_14 : xIns xg 55 14 = some (.iload 4) := by decide +kernel
theorem i55_16 : xIns xg 55 16 = some (.invokevirtual 142) := by decide +kernel
theorem i55_19 : xIns xg 55 19 = some (.istore 5) := by decide +kernel
theorem i55_21 : xIns xg 55 21 = some (.iload 5) := by decide +kernel
theorem i55_23 : xIns xg 55 23 = some (.bipush (-6)) := by decide +kernel
theorem i55_25 : xIns xg 55 25 = some (.if_icmp .ne 6) := by decide +kernel
theorem i55_31 : xIns xg 55 31 = some (.iload 5) := by decide +kernel
theorem i55_33 : xIns xg 55 33 = some (.iconst 1) := by decide +kernel
theorem i55_34 : xIns xg 55 34 = some (.if_icmp .ne 17) := by decide +kernel
theorem i55_51 : xIns xg 55 51 = some (.iload 4) := by decide +kernel
theorem i55_53 : xIns xg 55 53 = some (.ireturn) := by decide +kernel
theorem i55_37 : xIns xg 55 37 = some (.iload 4) := by decide +kernel
theorem i55_39 : xIns xg 55 39 = some (.ifCond .le 15) := by decide +kernel
theorem i55_42 : xIns xg 55 42 = some (.aload_n 0) := by decide +kernel
theorem i55_43 : xIns xg 55 43 = some (.getfield 18) := by decide +kernel
theorem i55_46 : xIns xg 55 46 = some (.lload_n 2) := by decide +kernel
theorem i55_47 : xIns xg 55 47 = some (.lcmp) := by decide +kernel
theorem i55_48 : xIns xg 55 48 = some (.ifCond .gt 6) := by decide +kernel
theorem i55_28 : xIns xg 55 28 = some (.bipush (-6)) := by decide +kernel
theorem i55_30 : xIns xg 55 30 = some (.ireturn) := by decide +kernel
theorem i55_0 : xIns xg 55 0 = some (.lconst 0) := by decide +kernel
theorem i55_1 : xIns xg 55 1 = some (.lstore_n 2) := by decide +kernel
theorem i55_2 : xIns xg 55 2 = some (.iconst 0) := by decide +kernel
theorem i55_3 : xIns xg 55 3 = some (.istore 4) := by decide +kernel
def d_x4_rising_54 (N : Nat) (t : Nat) (k5 : St → Int → Int → Int → Option Rs) (s : St) (x1 : Int) (x4 : Int) : Option Rs :=
  bd (s 50 4) fun v1 => bd (x4 + 1) fun v2 => k5 s x1 v1 v2
set_option maxHeartbeats 4000000 in
set_option maxRecDepth 100000 in
theorem c_x4_rising_54 {sc : xS} {d : Nat} {R : Rs} (N : Nat) (t : Nat) (H : isTold t) (hd : 442 ≤ d) (k5 : St → Int → Int → Int → Option Rs) (hk5 : ∀ (s : St) (x1 : Int) (x2 : Int) (x4 : Int), k5 s x1 x2 x4 = some R → vT sc d 55 5 [(0, .ref 50), (1, vi x1), (2, vl x2), (4, vi x4)] [] s (fun r => r = qI R))  (s : St) (x1 : Int) (x4 : Int) : d_x4_rising_54 N t k5 s x1 x4 = some R → vT sc d 55 54 [(0, .ref 50), (1, vi x1), (4, vi x4)] [] s (fun r => r = qI R) := by
  obtain ⟨d, rfl⟩ : ∃ d', d = d' + 1 := ⟨d - 1, by omega⟩
  unfold d_x4_rising_54
  refine vLan 55 i55_54 rfl rfl ?_
  refine vGetL 58 i55_55 f55_18 sh_50 rfl rfl ?_
  refine vSln 59 (fun v1 => [(2, vl v1), (0, .ref 50), (1, vi x1), (4, vi x4)]) i55_58 m55 (by decide) (fun v1 => (rfl : xst2 [(0, .ref 50), (1, vi x1), (4, vi x4)] 2 (vl v1) = [(2, vl v1), (0, .ref 50), (1, vi x1), (4, vi x4)])) rfl (fun v1 => ?_)
  refine vInc 62 (fun v2 => [(4, vi v2), (2, vl v1), (0, .ref 50), (1, vi x1)]) i55_59 m55 (by decide) rfl (fun _ => rfl) rfl (fun v2 => ?_)
  refine vGo 5 i55_62 rfl ?_
  exact fun hD => tLc [(0, .ref 50), (1, vi x1), (2, vl v1), (4, vi v2)] (xNdk [0, 1, 2, 4] rfl (by decide)) (xNdk [4, 2, 0, 1] rfl (by decide)) ⟨rfl, rfl, rfl, rfl, trivial⟩ (hk5 s x1 v1 v2 hD)
def d_x4_rising_5 (N : Nat) (t : Nat)  (k5 : St → Int → Int → Int → Option Rs) (s : St) (x1 : Int) (x2 : Int) (x4 : Int) : Option Rs :=
  (if (w32 x4) < 64 then bI (d_x4_outcome N t s x1 x4) fun s3 v4 => (if (w32 v4) = (-6) then some (s3, (-6)) else (if (w32 v4) = 1 then (if 0 < (w32 x4) then (if (w64 x2) < (w64 (s3 50 4)) then d_x4_rising_54 N t k5 s3 x1 x4 else some (s3, x4)) else d_x4_rising_54 N t k5 s3 x1 x4) else some (s3, x4))) else some (s, 64))
def d_x4_rising_5L (N : Nat) (t : Nat)  : Nat → St → Int → Int → Int → Option Rs
  | 0 => fun _ _ _ _ => none
  | n + 1 => d_x4_rising_5 N t  (d_x4_rising_5L N t  n)
set_option maxHeartbeats 4000000 in
set_option maxRecDepth 100000 in
theorem c_x4_rising_5 {sc : xS} {d : Nat} {R : Rs} (N : Nat) (t : Nat) (H : isTold t) (hd : 442 ≤ d)   (k5 : St → Int → Int → Int → Option Rs) (hk5 : ∀ (s : St) (x1 : Int) (x2 : Int) (x4 : Int), k5 s x1 x2 x4 = some R → vT sc d 55 5 [(0, .ref 50), (1, vi x1), (2, vl x2), (4, vi x4)] [] s (fun r => r = qI R)) (s : St) (x1 : Int) (x2 : Int) (x4 : Int) : d_x4_rising_5 N t  k5 s x1 x2 x4 = some R → vT sc d 55 5 [(0, .ref 50), (1, vi x1), (2, vl x2), (4, vi x4)] [] s (fun r => r = qI R) := by
  obtain ⟨d, rfl⟩ : ∃ d', d = d' + 1 := ⟨d - 1, by omega⟩
  unfold d_x4_rising_5
  refine vLi 7 i55_5 rfl rfl ?_
  refine vKb 9 i55_7 (by decide) rfl ?_
  refine vCge 65 12 rfl (show w32 64 = 64 from rfl) i55_9 rfl rfl ?_ ?_
  · refine vKb 67 i55_65 (by decide) rfl ?_
    exact vRi i55_67 m55 rfl
  · refine vLan 13 i55_12 rfl rfl ?_
    refine vLin 14 i55_13 rfl rfl ?_
    refine vLi 16 i55_14 rfl rfl ?_
    refine vCallI 19 [.ref 50, vi x1, vi x4] [] [(0, .ref 50), (1, vi x1), (2, vi x4)] i55_16 rfl (xlk0 l55_142) (Or.inl rfl) m51 rfl rfl (Nat.le_of_ble_eq_true rfl) (Nat.le_of_ble_eq_true rfl) (Nat.le_of_ble_eq_true rfl) (xh0 sh_50 (by decide)) rfl rfl (fun R1 => c_x4_outcome N t H (by omega) s x1 x4) (fun s3 v4 => ?_)
    refine vSi0 21 [(5, vi v4), (0, .ref 50), (1, vi x1), (2, vl x2), (4, vi x4)] i55_19 m55 (by decide) rfl rfl ?_
    refine vLi 23 i55_21 rfl rfl ?_
    refine vKb 25 i55_23 (by decide) rfl ?_
    refine vCne 31 28 rfl (show w32 (-6) = (-6) from rfl) i55_25 rfl rfl ?_ ?_
    · refine vLi 33 i55_31 rfl rfl ?_
      refine vK 34 i55_33 rfl ?_
      refine vCne 51 37 rfl (show w32 1 = 1 from rfl) i55_34 rfl rfl ?_ ?_
      · refine vLi 53 i55_51 rfl rfl ?_
        exact vRi i55_53 m55 rfl
      · refine vLi 39 i55_37 rfl rfl ?_
        refine vZle 54 42 rfl i55_39 rfl rfl ?_ ?_
        · exact fun hD => tLc [(0, .ref 50), (1, vi x1), (4, vi x4)] (xNdk [0, 1, 4] rfl (by decide)) (xNdk [5, 0, 1, 2, 4] rfl (by decide)) ⟨rfl, rfl, rfl, trivial⟩ (c_x4_rising_54 N t H hd k5 hk5 s3 x1 x4 hD)
        · refine vLan 43 i55_42 rfl rfl ?_
          refine vGetL 46 i55_43 f55_18 sh_50 rfl rfl ?_
          refine vLln 47 i55_46 rfl rfl ?_
          refine vLcgt 54 48 51 rfl rfl i55_47 rfl i55_48 rfl rfl ?_ ?_
          · exact fun hD => tLc [(0, .ref 50), (1, vi x1), (4, vi x4)] (xNdk [0, 1, 4] rfl (by decide)) (xNdk [5, 0, 1, 2, 4] rfl (by decide)) ⟨rfl, rfl, rfl, trivial⟩ (c_x4_rising_54 N t H hd k5 hk5 s3 x1 x4 hD)
          · refine vLi 53 i55_51 rfl rfl ?_
            exact vRi i55_53 m55 rfl
    · refine vKb 30 i55_28 (by decide) rfl ?_
      exact vRi i55_30 m55 rfl
theorem c_x4_rising_5L {sc : xS} {d : Nat} {R : Rs} (N : Nat) (t : Nat) (H : isTold t) (hd : 442 ≤ d)   : ∀ (n : Nat) (s : St) (x1 : Int) (x2 : Int) (x4 : Int), d_x4_rising_5L N t  n s x1 x2 x4 = some R → vT sc d 55 5 [(0, .ref 50), (1, vi x1), (2, vl x2), (4, vi x4)] [] s (fun r => r = qI R) := by
  intro n
  induction n with
  | zero => intro s x1 x2 x4 hD; cases hD
  | succ n ih => intro s x1 x2 x4 hD; exact c_x4_rising_5 N t H hd  _ ih s x1 x2 x4 hD
def d_x4_rising (N : Nat) (t : Nat)  (s : St) (a0 : Int) : Option Rs :=
  d_x4_rising_5L N t  N s a0 0 0
set_option maxHeartbeats 4000000 in
set_option maxRecDepth 100000 in
theorem c_x4_rising {sc : xS} {d : Nat} {R : Rs} (N : Nat) (t : Nat) (H : isTold t) (hd : 442 ≤ d)   (s : St) (a0 : Int) : d_x4_rising N t  s a0 = some R → vT sc d 55 0 [(0, .ref 50), (1, vi a0)] [] s (fun r => r = qI R) := by
  obtain ⟨d, rfl⟩ : ∃ d', d = d' + 1 := ⟨d - 1, by omega⟩
  unfold d_x4_rising
  refine vKl 1 0 i55_0 (by decide) rfl ?_
  refine vSln0w 2 [(2, vl 0), (0, .ref 50), (1, vi a0)] i55_1 m55 (by decide) rfl rfl ?_
  refine vK 3 i55_2 rfl ?_
  refine vSi0 5 [(4, vi 0), (2, vl 0), (0, .ref 50), (1, vi a0)] i55_3 m55 (by decide) rfl rfl ?_
  exact fun hD => tLc [(0, .ref 50), (1, vi a0), (2, vl 0), (4, vi 0)] (xNdk [0, 1, 2, 4] rfl (by decide)) (xNdk [4, 2, 0, 1] rfl (by decide)) ⟨rfl, rfl, rfl, rfl, trivial⟩ (c_x4_rising_5L N t H hd  N s a0 0 0 hD)
theorem f47_18 : xFld xg 47 18 = some (3, 4) := by decide +kernel
theorem i47_3 : xIns xg 47 3 = some (.iload 4) := by decide +kernel
theorem i47_5 : xIns xg 47 5 = some (.iload_n 2) := by decide +kernel
theorem i47_6 : xIns xg 47 6 = some (.if_icmp .ge 52) := by decide +kernel
theorem i47_58 : xIns xg 47 58 = some (.iload_n 2) := by decide +kernel
theorem i47_59 : xIns xg 47 59 = some (.ireturn) := by decide +kernel
theorem m47 : (xMet xg 47).2.2 = (6, (some .int)) := by decide +kernel
theorem i47_9 : xIns xg 47 9 = some (.iload 4) := by decide +kernel
theorem i47_11 : xIns xg 47 11 = some (.aload_n 3) := by decide +kernel
theorem i47_12 : xIns xg 47 12 = some (.arraylength) := by decide +kernel
theorem i47_13 : xIns xg 47 13 = some (.if_icmp .ge 45) := by decide +kernel
theorem i47_16 : xIns xg 47 16 = some (.aload_n 0) := by decide +kernel
theorem i47_17 : xIns xg 47 17 = some (.iload_n 1) := by decide +kernel
theorem i47_18 : xIns xg 47 18 = some (.iload 4) := by decide +kernel
theorem i47_20 : xIns xg 47 20 = some (.invokevirtual 142) := by decide +kernel
theorem i47_23 : xIns xg 47 23 = some (.istore 5) := by decide +kernel
theorem i47_25 : xIns xg 47 25 = some (.iload 5) := by decide +kernel
theorem i47_27 : xIns xg 47 27 = some (.bipush (-6)) := by decide +kernel
theorem i47_29 : xIns xg 47 29 = some (.if_icmp .ne 6) := by decide +kernel
theorem i47_35 : xIns xg 47 35 = some (.iload 5) := by decide +kernel
theorem i47_37 : xIns xg 47 37 = some (.iconst 1) := by decide +kernel
theorem i47_38 : xIns xg 47 38 = some (.if_icmp .eq 6) := by decide +kernel
theorem i47_44 : xIns xg 47 44 = some (.aload_n 3) := by decide +kernel
theorem i47_45 : xIns xg 47 45 = some (.iload 4) := by decide +kernel
theorem i47_47 : xIns xg 47 47 = some (.aload_n 0) := by decide +kernel
theorem i47_48 : xIns xg 47 48 = some (.getfield 18) := by decide +kernel
theorem i47_51 : xIns xg 47 51 = some (.lastore) := by decide +kernel
theorem i47_52 : xIns xg 47 52 = some (.iinc 4 1) := by decide +kernel
theorem i47_55 : xIns xg 47 55 = some (.goto (-52)) := by decide +kernel
theorem i47_41 : xIns xg 47 41 = some (.iload 4) := by decide +kernel
theorem i47_43 : xIns xg 47 43 = some (.ireturn) := by decide +kernel
theorem i47_32 : xIns xg 47 32 = some (.bipush (-6)) := by decide +kernel
theorem i47_34 : xIns xg 47 34 = some (.ireturn) := by decide +kernel
theorem i47_0 : xIns xg 47 0 = some (.iconst 0) := by decide +kernel
theorem i47_1 : xIns xg 47 1 = some (.istore 4) := by decide +kernel
def d_x4_gather_3 (N : Nat) (t : Nat)  (k3 : St → Int → Int → Int → Option Rs) (s : St) (x1 : Int) (x2 : Int) (x4 : Int) : Option Rs :=
  (if (w32 x4) < (w32 x2) then (if (w32 x4) < (w32 ((16 : Nat) : Int)) then bI (d_x4_outcome N t s x1 x4) fun s1 v2 => (if (w32 v2) = (-6) then some (s1, (-6)) else (if (w32 v2) = 1 then if 0 ≤ (w32 x4) ∧ (w32 x4) < ((16 : Nat) : Int) then bd (up s1 55 (Int.toNat (w32 x4)) (s1 50 4)) fun s3 => bd (x4 + 1) fun v4 => k3 s3 x1 x2 v4 else none else some (s1, x4))) else some (s, x2)) else some (s, x2))
def d_x4_gather_3L (N : Nat) (t : Nat)  : Nat → St → Int → Int → Int → Option Rs
  | 0 => fun _ _ _ _ => none
  | n + 1 => d_x4_gather_3 N t  (d_x4_gather_3L N t  n)
set_option maxHeartbeats 4000000 in
set_option maxRecDepth 100000 in
theorem c_x4_gather_3 {sc : xS} {d : Nat} {R : Rs} (N : Nat) (t : Nat) (H : isTold t) (hd : 442 ≤ d)   (k3 : St → Int → Int → Int → Option Rs) (hk3 : ∀ (s : St) (x1 : Int) (x2 : Int) (x4 : Int), k3 s x1 x2 x4 = some R → vT sc d 47 3 [(0, .ref 50), (1, vi x1), (2, vi x2), (3, .ref 55), (4, vi x4)] [] s (fun r => r = qI R)) (s : St) (x1 : Int) (x2 : Int) (x4 : Int) : d_x4_gather_3 N t  k3 s x1 x2 x4 = some R → vT sc d 47 3 [(0, .ref 50), (1, vi x1), (2, vi x2), (3, .ref 55), (4, vi x4)] [] s (fun r => r = qI R) := by
  obtain ⟨d, rfl⟩ : ∃ d', d = d' + 1 := ⟨d - 1, by omega⟩
  unfold d_x4_gather_3
  refine vLi 5 i47_3 rfl rfl ?_
  refine vLin 6 i47_5 rfl rfl ?_
  refine vCge 58 9 rfl rfl i47_6 rfl rfl ?_ ?_
  · refine vLin 59 i47_58 rfl rfl ?_
    exact vRi i47_59 m47 rfl
  · refine vLi 11 i47_9 rfl rfl ?_
    refine vLan 12 i47_11 rfl rfl ?_
    refine vAln 13 (Or.inr rfl) i47_12 sh_55 rfl ?_
    refine vCge 58 16 rfl rfl i47_13 rfl rfl ?_ ?_
    · refine vLin 59 i47_58 rfl rfl ?_
      exact vRi i47_59 m47 rfl
    · refine vLan 17 i47_16 rfl rfl ?_
      refine vLin 18 i47_17 rfl rfl ?_
      refine vLi 20 i47_18 rfl rfl ?_
      refine vCallI 23 [.ref 50, vi x1, vi x4] [] [(0, .ref 50), (1, vi x1), (2, vi x4)] i47_20 rfl (xlk0 l47_142) (Or.inl rfl) m51 rfl rfl (Nat.le_of_ble_eq_true rfl) (Nat.le_of_ble_eq_true rfl) (Nat.le_of_ble_eq_true rfl) (xh0 sh_50 (by decide)) rfl rfl (fun R1 => c_x4_outcome N t H (by omega) s x1 x4) (fun s1 v2 => ?_)
      refine vSi0 25 [(5, vi v2), (0, .ref 50), (1, vi x1), (2, vi x2), (3, .ref 55), (4, vi x4)] i47_23 m47 (by decide) rfl rfl ?_
      refine vLi 27 i47_25 rfl rfl ?_
      refine vKb 29 i47_27 (by decide) rfl ?_
      refine vCne 35 32 rfl (show w32 (-6) = (-6) from rfl) i47_29 rfl rfl ?_ ?_
      · refine vLi 37 i47_35 rfl rfl ?_
        refine vK 38 i47_37 rfl ?_
        refine vCeq 44 41 rfl (show w32 1 = 1 from rfl) i47_38 rfl rfl ?_ ?_
        · refine vLan 45 i47_44 rfl rfl ?_
          refine vLi 47 i47_45 rfl rfl ?_
          refine vLan 48 i47_47 rfl rfl ?_
          refine vGetL 51 i47_48 f47_18 sh_50 rfl rfl ?_
          refine vLas 52 rfl i47_51 sh_55 rfl (fun s3 => ?_)
          refine vInc 55 (fun v4 => [(4, vi v4), (5, vi v2), (0, .ref 50), (1, vi x1), (2, vi x2), (3, .ref 55)]) i47_52 m47 (by decide) rfl (fun _ => rfl) rfl (fun v4 => ?_)
          refine vGo 3 i47_55 rfl ?_
          exact fun hD => tLc [(0, .ref 50), (1, vi x1), (2, vi x2), (3, .ref 55), (4, vi v4)] (xNdk [0, 1, 2, 3, 4] rfl (by decide)) (xNdk [4, 5, 0, 1, 2, 3] rfl (by decide)) ⟨rfl, rfl, rfl, rfl, rfl, trivial⟩ (hk3 s3 x1 x2 v4 hD)
        · refine vLi 43 i47_41 rfl rfl ?_
          exact vRi i47_43 m47 rfl
      · refine vKb 34 i47_32 (by decide) rfl ?_
        exact vRi i47_34 m47 rfl
theorem c_x4_gather_3L {sc : xS} {d : Nat} {R : Rs} (N : Nat) (t : Nat) (H : isTold t) (hd : 442 ≤ d)   : ∀ (n : Nat) (s : St) (x1 : Int) (x2 : Int) (x4 : Int), d_x4_gather_3L N t  n s x1 x2 x4 = some R → vT sc d 47 3 [(0, .ref 50), (1, vi x1), (2, vi x2), (3, .ref 55), (4, vi x4)] [] s (fun r => r = qI R) := by
  intro n
  induction n with
  | zero => intro s x1 x2 x4 hD; cases hD
  | succ n ih => intro s x1 x2 x4 hD; exact c_x4_gather_3 N t H hd  _ ih s x1 x2 x4 hD
def d_x4_gather (N : Nat) (t : Nat)  (s : St) (a0 : Int) (a1 : Int) : Option Rs :=
  d_x4_gather_3L N t  N s a0 a1 0
set_option maxHeartbeats 4000000 in
set_option maxRecDepth 100000 in
theorem c_x4_gather {sc : xS} {d : Nat} {R : Rs} (N : Nat) (t : Nat) (H : isTold t) (hd : 442 ≤ d)   (s : St) (a0 : Int) (a1 : Int) : d_x4_gather N t  s a0 a1 = some R → vT sc d 47 0 [(0, .ref 50), (1, vi a0), (2, vi a1), (3, .ref 55)] [] s (fun r => r = qI R) := by
  obtain ⟨d, rfl⟩ : ∃ d', d = d' + 1 := ⟨d - 1, by omega⟩
  unfold d_x4_gather
  refine vK 1 i47_0 rfl ?_
  refine vSi0 3 [(4, vi 0), (0, .ref 50), (1, vi a0), (2, vi a1), (3, .ref 55)] i47_1 m47 (by decide) rfl rfl ?_
  exact fun hD => tLc [(0, .ref 50), (1, vi a0), (2, vi a1), (3, .ref 55), (4, vi 0)] (xNdk [0, 1, 2, 3, 4] rfl (by decide)) (xNdk [4, 0, 1, 2, 3] rfl (by decide)) ⟨rfl, rfl, rfl, rfl, rfl, trivial⟩ (c_x4_gather_3L N t H hd  N s a0 a1 0 hD)
