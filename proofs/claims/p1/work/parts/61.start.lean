theorem i0_27 : xIns xg 0 27 = some (.aload_n 0) := by decide +kernel
theorem i0_28 : xIns xg 0 28 = some (.iload_n 3) := by decide +kernel
theorem i0_29 : xIns xg 0 29 = some (.iaload) := by decide +kernel
theorem i0_30 : xIns xg 0 30 = some (.bipush 31) := by decide +kernel
theorem i0_32 : xIns xg 0 32 = some (.iand) := by decide +kernel
theorem i0_33 : xIns xg 0 33 = some (.tableswitch 1193 0 28 #[131, 154, 177, 200, 243, 277, 321, 364, 407, 440, 473, 506, 540, 573, 596, 609, 643, 716, 759, 782, 825, 868, 881, 894, 917, 960, 1033, 1067, 1130]) := by decide +kernel
theorem i0_0 : xIns xg 0 0 = some (.new 7) := by decide +kernel
theorem i0_3 : xIns xg 0 3 = some (.dup) := by decide +kernel
theorem i0_4 : xIns xg 0 4 = some (.invokespecial 9) := by decide +kernel
theorem i0_7 : xIns xg 0 7 = some (.astore_n 1) := by decide +kernel
theorem i0_8 : xIns xg 0 8 = some (.new 10) := by decide +kernel
theorem i0_11 : xIns xg 0 11 = some (.dup) := by decide +kernel
theorem i0_12 : xIns xg 0 12 = some (.invokespecial 12) := by decide +kernel
theorem i0_15 : xIns xg 0 15 = some (.astore_n 2) := by decide +kernel
theorem i0_16 : xIns xg 0 16 = some (.iconst 0) := by decide +kernel
theorem i0_17 : xIns xg 0 17 = some (.istore_n 3) := by decide +kernel
theorem l0_9 : xMth xg 0 9 = some (4, 93, 1, 6) := by decide +kernel
theorem l0_12 : xMth xg 0 12 = some (4, 143, 1, 7) := by decide +kernel
theorem n0_7 : xCls xg 0 7 = some 6 := by decide +kernel
theorem n0_10 : xCls xg 0 10 = some 7 := by decide +kernel
set_option maxRecDepth 100000 in
set_option maxHeartbeats 4000000 in
theorem law_head {d L : Nat} {xs : Nat → Int32} {Q : xR → Prop} (hL : L ≤ 6) (hQ : ∀ h, Q (some (.int 1), h, 0, 0)) : xT xg (L, xs) (d + 13) 0 18 [(3, .int 0), (2, .ref 77), (1, .ref 0), (0, .retAddr 0)] [] (hC mC) Q := by
  refine wLin 19 i0_18 rfl rfl ?_
  refine wLsn 20 i0_19 rfl rfl ?_
  refine wSln0 21 i0_20 rfl ?_
  refine wKb 23 6 i0_21 (by decide) rfl ?_
  refine wA 24 i0_23 rfl rfl rfl ?_
  rcases Nat.lt_or_ge L 6 with hl | hl
  · have hc : Int32.ofNat L - 6 < 0 := by
      match L, hl with
      | 0, _ => decide
      | 1, _ => decide
      | 2, _ => decide
      | 3, _ => decide
      | 4, _ => decide
      | 5, _ => decide
    refine wCT 1232 i0_24 rfl (decide_eq_true hc) ?_
    refine wK 1233 1 i0_1232 (by decide) rfl ?_
    refine wRi i0_1233 m0 (by decide) ?_
    exact hQ _
  · obtain rfl : L = 6 := by omega
    refine tTop (v := 0) (show (Int32.ofNat 6 - 6 : Int32) = 0 by decide) ?_
    refine wCF 1232 27 i0_24 rfl (by decide) rfl ?_
    refine wLsn 28 i0_27 rfl rfl ?_
    refine wLin 29 i0_28 rfl rfl ?_
    refine wSal6 30 0 i0_29 (by decide) rfl rfl ?_
    refine wKb 32 31 i0_30 (by decide) rfl ?_
    refine wA 33 i0_32 rfl rfl rfl ?_
    obtain ⟨j, hj, he⟩ := pk_andE (xs 0) (m := 31) 5 rfl
    refine tTop he ?_
    match j, hj with
    | 0, _ => exact wSw 164 i0_33 (by rfl) (law_c0 hQ)
    | 1, _ => exact wSw 187 i0_33 (by rfl) (law_c1 hQ)
    | 2, _ => exact wSw 210 i0_33 (by rfl) (law_c2 hQ)
    | 3, _ => exact wSw 233 i0_33 (by rfl) (law_c3 hQ)
    | 4, _ => exact wSw 276 i0_33 (by rfl) (law_c4 hQ)
    | 5, _ => exact wSw 310 i0_33 (by rfl) (law_c5 hQ)
    | 6, _ => exact wSw 354 i0_33 (by rfl) (law_c6 hQ)
    | 7, _ => exact wSw 397 i0_33 (by rfl) (law_c7 hQ)
    | 8, _ => exact wSw 440 i0_33 (by rfl) (law_c8 hQ)
    | 9, _ => exact wSw 473 i0_33 (by rfl) (law_c9 hQ)
    | 10, _ => exact wSw 506 i0_33 (by rfl) (law_c10 hQ)
    | 11, _ => exact wSw 539 i0_33 (by rfl) (law_c11 hQ)
    | 12, _ => exact wSw 573 i0_33 (by rfl) (law_c12 hQ)
    | 13, _ => exact wSw 606 i0_33 (by rfl) (law_c13 hQ)
    | 14, _ => exact wSw 629 i0_33 (by rfl) (law_c14 hQ)
    | 15, _ => exact wSw 642 i0_33 (by rfl) (law_c15 hQ)
    | 16, _ => exact wSw 676 i0_33 (by rfl) (law_c16 hQ)
    | 17, _ => exact wSw 749 i0_33 (by rfl) (law_c17 hQ)
    | 18, _ => exact wSw 792 i0_33 (by rfl) (law_c18 hQ)
    | 19, _ => exact wSw 815 i0_33 (by rfl) (law_c19 hQ)
    | 20, _ => exact wSw 858 i0_33 (by rfl) (law_c20 hQ)
    | 21, _ => exact wSw 901 i0_33 (by rfl) (law_c21 hQ)
    | 22, _ => exact wSw 914 i0_33 (by rfl) (law_c22 hQ)
    | 23, _ => exact wSw 927 i0_33 (by rfl) (law_c23 hQ)
    | 24, _ => exact wSw 950 i0_33 (by rfl) (law_c24 hQ)
    | 25, _ => exact wSw 993 i0_33 (by rfl) (law_c25 hQ)
    | 26, _ => exact wSw 1066 i0_33 (by rfl) (law_c26 hQ)
    | 27, _ => exact wSw 1100 i0_33 (by rfl) (law_c27 hQ)
    | 28, _ => exact wSw 1163 i0_33 (by rfl) (law_c28 hQ)
    | 29, _ => exact wSw 1226 i0_33 (by rfl) (law_end _ hQ)
    | 30, _ => exact wSw 1226 i0_33 (by rfl) (law_end _ hQ)
    | 31, _ => exact wSw 1226 i0_33 (by rfl) (law_end _ hQ)
    | j + 32, hj => exact absurd hj (by omega)
set_option maxRecDepth 100000 in
set_option maxHeartbeats 4000000 in
theorem law_run {L : Nat} {xs : Nat → Int32} (hL : L ≤ 6) : xT xg (L, xs) 1300 0 0 [(0, .retAddr 0)] [] [] (fun r => r.1 = some (.int 1) ∧ r.2.2.1 ≤ 600000 ∧ r.2.2.2 ≤ 7302250) := by
  refine tNew (n := 0) i0_0 n0_7 rfl ?_
  refine wD 4 i0_3 rfl rfl rfl ?_
  refine wCallV 7 [.ref 0] [.ref 0] i0_4 rfl (xlk4 l0_9) (Or.inr (Or.inr (Or.inl rfl))) m93 rfl rfl (Nat.le_of_ble_eq_true rfl) (Nat.le_of_ble_eq_true rfl) (Nat.le_of_ble_eq_true rfl) rfl rfl (k_LateRows (d := 1296)) ?_
  refine wSan 8 [(1, .ref 0), (0, .retAddr 0)] i0_7 m0 (by decide) rfl rfl ?_
  refine tNew (n := 77) i0_8 n0_10 rfl ?_
  refine wD 12 i0_11 rfl rfl rfl ?_
  refine wCallV 15 [.ref 77] [.ref 77] i0_12 rfl (xlk4 l0_12) (Or.inr (Or.inr (Or.inl rfl))) m143 rfl rfl (Nat.le_of_ble_eq_true rfl) (Nat.le_of_ble_eq_true rfl) (Nat.le_of_ble_eq_true rfl) rfl rfl (k_Model (d := 1298) _ _ _ _ _ _ _ _ _ _ _ _ _ _ _ _ _ _ _ _ _ _ _ _ _ _ _ _ _ _ _ _ _ _ _ _ _ _ _ _ _ _ _ _ _ _ _ _ _ _ _ _ _ _ _ _ _ _ _ _ _ _ _ _ _ _ _ _ _ _ _ _ _ _ _ _ _) ?_
  refine wSan 16 [(2, .ref 77), (1, .ref 0), (0, .retAddr 0)] i0_15 m0 (by decide) rfl rfl ?_
  refine wK 17 0 i0_16 (by decide) rfl ?_
  refine wSin 18 [(3, .int 0), (2, .ref 77), (1, .ref 0), (0, .retAddr 0)] i0_17 m0 (by decide) rfl rfl ?_
  refine tHeap (h' := hC mC) rfl ?_
  exact law_head (d := 1287) hL (fun h => ⟨rfl, Nat.le_of_ble_eq_true rfl, Nat.le_of_ble_eq_true rfl⟩)
set_option maxRecDepth 100000 in
theorem whole_start {p : Program} {e : Env} {s : State} {m : MethodId} {below : List Frame} {meth : Method} {c : Code} (l : Launch) (hflags : l.flags = flags0) {b L : Nat} {xs : Nat → Int32} (hL : L ≤ 6) (C0 : lw_At p s m meth c b L xs) : W p l e room_1 s m #[Value.ref b] below meth c s.heap [] 0 0 (lw_Z below #[Value.ref b] s) (entryFrame m ([Value.ref b] : List Value).toArray 4) :=
  x_law l C0 (List.forall_mem_cons.mpr ⟨List.mem_of_getElem? (i := 111) (by decide +kernel), List.forall_mem_cons.mpr ⟨List.mem_of_getElem? (i := 203) (by decide +kernel), fun _ h => absurd h List.not_mem_nil⟩⟩) (law_run hL)

