theorem i0_0 : xIns xg 0 0 = some (.new 7) := by decide +kernel
theorem i0_3 : xIns xg 0 3 = some (.dup) := by decide +kernel
theorem i0_4 : xIns xg 0 4 = some (.invokespecial 9) := by decide +kernel
theorem i0_7 : xIns xg 0 7 = some (.astore_n 1) := by decide +kernel
theorem i0_8 : xIns xg 0 8 = some (.new 10) := by decide +kernel
theorem i0_11 : xIns xg 0 11 = some (.dup) := by decide +kernel
theorem i0_12 : xIns xg 0 12 = some (.invokespecial 12) := by decide +kernel
theorem i0_15 : xIns xg 0 15 = some (.astore_n 2) := by decide +kernel
theorem i0_16 : xIns xg 0 16 = some (.iconst 0) := by decide +kernel
theorem i0_17 : xIns xg 0 17 = some (.istore_n 3) := by decide +kernel
theorem n0_7 : xCls xg 0 7 = some 6 := by decide +kernel
theorem n0_10 : xCls xg 0 10 = some 7 := by decide +kernel
theorem l0_9 : xMth xg 0 9 = some (4, 93, 1, 6) := by decide +kernel
theorem l0_12 : xMth xg 0 12 = some (4, 143, 1, 7) := by decide +kernel
set_option maxRecDepth 100000 in
set_option maxHeartbeats 4000000 in
/-- the law's run, out of its loop as a pure function -/
theorem law_run {L N n : Nat} {xs : Nat → Int32} {R : Rs} (hR : d_law_18L N (L, xs) n s0 0 = some R) (h1 : R.2 = 1) : xT xg (L, xs) 1300 0 0 [(0, .retAddr 0)] [] [] (fun r => r.1 = some (.int 1) ∧ r.2.2.1 ≤ 600000 ∧ r.2.2.2 ≤ 7302250) := by
  refine tNew (n := 0) i0_0 n0_7 rfl ?_
  refine wD 4 i0_3 rfl rfl rfl ?_
  refine wCallV 7 [.ref 0] [.ref 0] i0_4 rfl (xlk4 l0_9) (Or.inr (Or.inr (Or.inl rfl))) m93 rfl rfl (Nat.le_of_ble_eq_true rfl) (Nat.le_of_ble_eq_true rfl) (Nat.le_of_ble_eq_true rfl) rfl rfl (k_LateRows (d := 1296)) ?_
  refine wSan 8 [(1, .ref 0), (0, .retAddr 0)] i0_7 m0 (by decide) rfl rfl ?_
  refine tNew (n := 77) i0_8 n0_10 rfl ?_
  refine wD 12 i0_11 rfl rfl rfl ?_
  refine wCallV 15 [.ref 77] [.ref 77] i0_12 rfl (xlk4 l0_12) (Or.inr (Or.inr (Or.inl rfl))) m143 rfl rfl (Nat.le_of_ble_eq_true rfl) (Nat.le_of_ble_eq_true rfl) (Nat.le_of_ble_eq_true rfl) rfl rfl (k_Model (d := 1298) _ _ _ _ _ _ _ _ _ _ _ _ _ _ _ _ _ _ _ _ _ _ _ _ _ _ _ _ _ _ _ _ _ _ _ _ _ _ _ _ _ _ _ _ _ _ _ _ _ _ _ _ _ _ _ _ _ _ _ _ _ _ _ _ _ _ _ _ _ _ _ _ _ _ _ _ _) ?_
  refine wSan 16 [(2, .ref 77), (1, .ref 0), (0, .retAddr 0)] i0_15 m0 (by decide) rfl rfl ?_
  refine wK 17 0 i0_16 (by decide) rfl ?_
  refine wSin 18 [(3, .int 0), (2, .ref 77), (1, .ref 0), (0, .retAddr 0)] i0_17 m0 (by decide) rfl rfl ?_
  refine tHeap (h' := hp s0) s0_heap ?_
  refine tLc [(0, .retAddr 0), (1, .ref 0), (2, .ref 77), (3, vi 0)] (xNdk [0, 1, 2, 3] rfl (by decide)) (xNdk [3, 2, 1, 0] rfl (by decide)) ⟨rfl, rfl, rfl, rfl, trivial⟩ ?_
  refine tPost (c_law_18L N (L, xs) (d := 1300) (Nat.le_of_ble_eq_true rfl) n s0 0 hR) ?_
  rintro r rfl
  exact ⟨by show some (vi R.2) = _; rw [h1]; rfl, Nat.le_of_ble_eq_true rfl, Nat.le_of_ble_eq_true rfl⟩
set_option maxRecDepth 100000 in
theorem whole_of {p : Program} {e : Env} {s : State} {m : MethodId} {below : List Frame} {meth : Method} {c : Code} (l : Launch) {b L : Nat} {xs : Nat → Int32} (C0 : lw_At p s m meth c b L xs) (hlaw : ∃ N n R, d_law_18L N (L, xs) n s0 0 = some R ∧ R.2 = 1) : W p l e room_1 s m #[Value.ref b] below meth c s.heap [] 0 0 (lw_Z below #[Value.ref b] s) (entryFrame m ([Value.ref b] : List Value).toArray 4) := by
  obtain ⟨N, n, R, h1, h2⟩ := hlaw
  exact x_law l C0 (List.forall_mem_cons.mpr ⟨List.mem_of_getElem? (i := 111) (by decide +kernel), List.forall_mem_cons.mpr ⟨List.mem_of_getElem? (i := 203) (by decide +kernel), fun _ h => absurd h List.not_mem_nil⟩⟩) (law_run h1 h2)
