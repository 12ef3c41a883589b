theorem i98_0 : xIns xg 98 0 = some (.iload_n 0) := by decide +kernel
theorem i98_1 : xIns xg 98 1 = some (.ifCond .lt 13) := by decide +kernel
theorem i98_14 : xIns xg 98 14 = some (.iconst 0) := by decide +kernel
theorem i98_15 : xIns xg 98 15 = some (.ireturn) := by decide +kernel
theorem m98 : (xMet xg 98).2.2 = (1, (some .boolean)) := by decide +kernel
theorem i98_4 : xIns xg 98 4 = some (.iload_n 0) := by decide +kernel
theorem i98_5 : xIns xg 98 5 = some (.bipush 8) := by decide +kernel
theorem i98_7 : xIns xg 98 7 = some (.if_icmp .ge 7) := by decide +kernel
theorem i98_10 : xIns xg 98 10 = some (.iconst 1) := by decide +kernel
theorem i98_11 : xIns xg 98 11 = some (.goto 4) := by decide +kernel
theorem i97_0 : xIns xg 97 0 = some (.iload_n 0) := by decide +kernel
theorem i97_1 : xIns xg 97 1 = some (.ifCond .lt 12) := by decide +kernel
theorem i97_13 : xIns xg 97 13 = some (.iconst 0) := by decide +kernel
theorem i97_14 : xIns xg 97 14 = some (.ireturn) := by decide +kernel
theorem m97 : (xMet xg 97).2.2 = (1, (some .boolean)) := by decide +kernel
theorem i97_4 : xIns xg 97 4 = some (.iload_n 0) := by decide +kernel
theorem i97_5 : xIns xg 97 5 = some (.iconst 4) := by decide +kernel
theorem i97_6 : xIns xg 97 6 = some (.if_icmp .ge 7) := by decide +kernel
theorem i97_9 : xIns xg 97 9 = some (.iconst 1) := by decide +kernel
theorem i97_10 : xIns xg 97 10 = some (.goto 4) := by decide +kernel
set_option maxHeartbeats 4000000 in
set_option maxRecDepth 100000 in
theorem b_isStream_n {sc : xS} {d : Nat} {h : xH} (s : Int32) (h1 : s < 0) : xT xg sc d 98 0 [(0, .int s)] [] h (fun r => r = (some (.int 0), h, 0, 0)) := by
  refine wLin 1 i98_0 rfl rfl ?_
  refine wZT 14 i98_1 rfl (decide_eq_true h1) ?_
  refine wK 15 0 i98_14 (by decide) rfl ?_
  refine wRi i98_15 m98 (by decide) ?_
  exact rfl
set_option maxHeartbeats 4000000 in
set_option maxRecDepth 100000 in
theorem b_isStream_b {sc : xS} {d : Nat} {h : xH} (s : Int32) (h1 : ¬ s < 0) (h2 : 8 ≤ s) : xT xg sc d 98 0 [(0, .int s)] [] h (fun r => r = (some (.int 0), h, 0, 0)) := by
  refine wLin 1 i98_0 rfl rfl ?_
  refine wZF 14 4 i98_1 rfl (decide_eq_false h1) rfl ?_
  refine wLin 5 i98_4 rfl rfl ?_
  refine wKb 7 8 i98_5 (by decide) rfl ?_
  refine wCT 14 i98_7 rfl (decide_eq_true h2) ?_
  refine wK 15 0 i98_14 (by decide) rfl ?_
  refine wRi i98_15 m98 (by decide) ?_
  exact rfl
set_option maxHeartbeats 4000000 in
set_option maxRecDepth 100000 in
theorem b_isStream_y {sc : xS} {d : Nat} {h : xH} (s : Int32) (h1 : ¬ s < 0) (h2 : ¬ 8 ≤ s) : xT xg sc d 98 0 [(0, .int s)] [] h (fun r => r = (some (.int 1), h, 0, 0)) := by
  refine wLin 1 i98_0 rfl rfl ?_
  refine wZF 14 4 i98_1 rfl (decide_eq_false h1) rfl ?_
  refine wLin 5 i98_4 rfl rfl ?_
  refine wKb 7 8 i98_5 (by decide) rfl ?_
  refine wCF 14 10 i98_7 rfl (decide_eq_false h2) rfl ?_
  refine wK 11 1 i98_10 (by decide) rfl ?_
  refine wGo 15 i98_11 rfl ?_
  refine wRi i98_15 m98 (by decide) ?_
  exact rfl
set_option maxHeartbeats 4000000 in
set_option maxRecDepth 100000 in
theorem b_isSheet_n {sc : xS} {d : Nat} {h : xH} (s : Int32) (h1 : s < 0) : xT xg sc d 97 0 [(0, .int s)] [] h (fun r => r = (some (.int 0), h, 0, 0)) := by
  refine wLin 1 i97_0 rfl rfl ?_
  refine wZT 13 i97_1 rfl (decide_eq_true h1) ?_
  refine wK 14 0 i97_13 (by decide) rfl ?_
  refine wRi i97_14 m97 (by decide) ?_
  exact rfl
set_option maxHeartbeats 4000000 in
set_option maxRecDepth 100000 in
theorem b_isSheet_b {sc : xS} {d : Nat} {h : xH} (s : Int32) (h1 : ¬ s < 0) (h2 : 4 ≤ s) : xT xg sc d 97 0 [(0, .int s)] [] h (fun r => r = (some (.int 0), h, 0, 0)) := by
  refine wLin 1 i97_0 rfl rfl ?_
  refine wZF 13 4 i97_1 rfl (decide_eq_false h1) rfl ?_
  refine wLin 5 i97_4 rfl rfl ?_
  refine wK 6 4 i97_5 (by decide) rfl ?_
  refine wCT 13 i97_6 rfl (decide_eq_true h2) ?_
  refine wK 14 0 i97_13 (by decide) rfl ?_
  refine wRi i97_14 m97 (by decide) ?_
  exact rfl
set_option maxHeartbeats 4000000 in
set_option maxRecDepth 100000 in
theorem b_isSheet_y {sc : xS} {d : Nat} {h : xH} (s : Int32) (h1 : ¬ s < 0) (h2 : ¬ 4 ≤ s) : xT xg sc d 97 0 [(0, .int s)] [] h (fun r => r = (some (.int 1), h, 0, 0)) := by
  refine wLin 1 i97_0 rfl rfl ?_
  refine wZF 13 4 i97_1 rfl (decide_eq_false h1) rfl ?_
  refine wLin 5 i97_4 rfl rfl ?_
  refine wK 6 4 i97_5 (by decide) rfl ?_
  refine wCF 13 9 i97_6 rfl (decide_eq_false h2) rfl ?_
  refine wK 10 1 i97_9 (by decide) rfl ?_
  refine wGo 14 i97_10 rfl ?_
  refine wRi i97_14 m97 (by decide) ?_
  exact rfl
