theorem f178_13 : xFld xg 178 13 = some (7, 1) := by decide +kernel
theorem f178_20 : xFld xg 178 20 = some (7, 3) := by decide +kernel
theorem f178_17 : xFld xg 178 17 = some (7, 2) := by decide +kernel
theorem f178_33 : xFld xg 178 33 = some (7, 7) := by decide +kernel
theorem f178_36 : xFld xg 178 36 = some (7, 8) := by decide +kernel
theorem f178_30 : xFld xg 178 30 = some (7, 6) := by decide +kernel
theorem f178_26 : xFld xg 178 26 = some (7, 5) := by decide +kernel
theorem i178_123 : xIns xg 178 123 = some (.aload_n 0) := by decide +kernel
theorem i178_124 : xIns xg 178 124 = some (.aload_n 0) := by decide +kernel
theorem i178_125 : xIns xg 178 125 = some (.getfield 36) := by decide +kernel
theorem i178_128 : xIns xg 178 128 = some (.bipush 8) := by decide +kernel
theorem i178_130 : xIns xg 178 130 = some (.iload_n 3) := by decide +kernel
theorem i178_131 : xIns xg 178 131 = some (.imul) := by decide +kernel
theorem i178_132 : xIns xg 178 132 = some (.iload 4) := by decide +kernel
theorem i178_134 : xIns xg 178 134 = some (.iadd) := by decide +kernel
theorem i178_135 : xIns xg 178 135 = some (.laload) := by decide +kernel
theorem i178_136 : xIns xg 178 136 = some (.invokevirtual 316) := by decide +kernel
theorem i178_139 : xIns xg 178 139 = some (.iinc 4 1) := by decide +kernel
theorem m178 : (xMet xg 178).2.2 = (5, none) := by decide +kernel
theorem i178_142 : xIns xg 178 142 = some (.goto (-45)) := by decide +kernel
theorem i178_97 : xIns xg 178 97 = some (.iload 4) := by decide +kernel
theorem i178_99 : xIns xg 178 99 = some (.aload_n 0) := by decide +kernel
theorem i178_100 : xIns xg 178 100 = some (.getfield 33) := by decide +kernel
theorem i178_103 : xIns xg 178 103 = some (.iload_n 3) := by decide +kernel
theorem i178_104 : xIns xg 178 104 = some (.iaload) := by decide +kernel
theorem i178_105 : xIns xg 178 105 = some (.if_icmp .ge 40) := by decide +kernel
theorem i178_145 : xIns xg 178 145 = some (.iinc 2 1) := by decide +kernel
theorem i178_148 : xIns xg 178 148 = some (.goto (-141)) := by decide +kernel
theorem i178_108 : xIns xg 178 108 = some (.iload 4) := by decide +kernel
theorem i178_110 : xIns xg 178 110 = some (.ifCond .le 13) := by decide +kernel
theorem i178_113 : xIns xg 178 113 = some (.aload_n 0) := by decide +kernel
theorem i178_114 : xIns xg 178 114 = some (.bipush 44) := by decide +kernel
theorem i178_116 : xIns xg 178 116 = some (.iconst 0) := by decide +kernel
theorem i178_117 : xIns xg 178 117 = some (.iconst 0) := by decide +kernel
theorem i178_118 : xIns xg 178 118 = some (.iconst 0) := by decide +kernel
theorem i178_119 : xIns xg 178 119 = some (.iconst 0) := by decide +kernel
theorem i178_120 : xIns xg 178 120 = some (.invokevirtual 309) := by decide +kernel
theorem i178_94 : xIns xg 178 94 = some (.iconst 0) := by decide +kernel
theorem i178_95 : xIns xg 178 95 = some (.istore 4) := by decide +kernel
theorem i178_74 : xIns xg 178 74 = some (.aload_n 0) := by decide +kernel
theorem i178_75 : xIns xg 178 75 = some (.getfield 17) := by decide +kernel
theorem i178_78 : xIns xg 178 78 = some (.iload_n 3) := by decide +kernel
theorem i178_79 : xIns xg 178 79 = some (.iaload) := by decide +kernel
theorem i178_80 : xIns xg 178 80 = some (.iconst 1) := by decide +kernel
theorem i178_81 : xIns xg 178 81 = some (.if_icmp .ne 13) := by decide +kernel
theorem i178_84 : xIns xg 178 84 = some (.aload_n 0) := by decide +kernel
theorem i178_85 : xIns xg 178 85 = some (.aload_n 0) := by decide +kernel
theorem i178_86 : xIns xg 178 86 = some (.getfield 30) := by decide +kernel
theorem i178_89 : xIns xg 178 89 = some (.iload_n 3) := by decide +kernel
theorem i178_90 : xIns xg 178 90 = some (.laload) := by decide +kernel
theorem i178_91 : xIns xg 178 91 = some (.invokevirtual 316) := by decide +kernel
theorem i178_52 : xIns xg 178 52 = some (.aload_n 0) := by decide +kernel
theorem i178_53 : xIns xg 178 53 = some (.getfield 17) := by decide +kernel
theorem i178_56 : xIns xg 178 56 = some (.iload_n 3) := by decide +kernel
theorem i178_57 : xIns xg 178 57 = some (.iaload) := by decide +kernel
theorem i178_58 : xIns xg 178 58 = some (.invokestatic 282) := by decide +kernel
theorem i178_61 : xIns xg 178 61 = some (.ifCond .eq 13) := by decide +kernel
theorem i178_64 : xIns xg 178 64 = some (.aload_n 0) := by decide +kernel
theorem i178_65 : xIns xg 178 65 = some (.aload_n 0) := by decide +kernel
theorem i178_66 : xIns xg 178 66 = some (.getfield 26) := by decide +kernel
theorem i178_69 : xIns xg 178 69 = some (.iload_n 3) := by decide +kernel
theorem i178_70 : xIns xg 178 70 = some (.laload) := by decide +kernel
theorem i178_71 : xIns xg 178 71 = some (.invokevirtual 316) := by decide +kernel
theorem i178_7 : xIns xg 178 7 = some (.iload_n 2) := by decide +kernel
theorem i178_8 : xIns xg 178 8 = some (.aload_n 0) := by decide +kernel
theorem i178_9 : xIns xg 178 9 = some (.getfield 13) := by decide +kernel
theorem i178_12 : xIns xg 178 12 = some (.iload_n 1) := by decide +kernel
theorem i178_13 : xIns xg 178 13 = some (.iaload) := by decide +kernel
theorem i178_14 : xIns xg 178 14 = some (.if_icmp .ge 137) := by decide +kernel
theorem i178_151 : xIns xg 178 151 = some (.return_) := by decide +kernel
theorem i178_17 : xIns xg 178 17 = some (.bipush 24) := by decide +kernel
theorem i178_19 : xIns xg 178 19 = some (.iload_n 1) := by decide +kernel
theorem i178_20 : xIns xg 178 20 = some (.imul) := by decide +kernel
theorem i178_21 : xIns xg 178 21 = some (.iload_n 2) := by decide +kernel
theorem i178_22 : xIns xg 178 22 = some (.iadd) := by decide +kernel
theorem i178_23 : xIns xg 178 23 = some (.istore_n 3) := by decide +kernel
theorem i178_24 : xIns xg 178 24 = some (.aload_n 0) := by decide +kernel
theorem i178_25 : xIns xg 178 25 = some (.iload_n 3) := by decide +kernel
theorem i178_26 : xIns xg 178 26 = some (.invokevirtual 313) := by decide +kernel
theorem i178_29 : xIns xg 178 29 = some (.aload_n 0) := by decide +kernel
theorem i178_30 : xIns xg 178 30 = some (.getfield 20) := by decide +kernel
theorem i178_33 : xIns xg 178 33 = some (.iload_n 3) := by decide +kernel
theorem i178_34 : xIns xg 178 34 = some (.iaload) := by decide +kernel
theorem i178_35 : xIns xg 178 35 = some (.ifCond .eq 17) := by decide +kernel
theorem i178_38 : xIns xg 178 38 = some (.aload_n 0) := by decide +kernel
theorem i178_39 : xIns xg 178 39 = some (.aload_n 0) := by decide +kernel
theorem i178_40 : xIns xg 178 40 = some (.getfield 20) := by decide +kernel
theorem i178_43 : xIns xg 178 43 = some (.iload_n 3) := by decide +kernel
theorem i178_44 : xIns xg 178 44 = some (.iaload) := by decide +kernel
theorem i178_45 : xIns xg 178 45 = some (.iconst 0) := by decide +kernel
theorem i178_46 : xIns xg 178 46 = some (.iconst 0) := by decide +kernel
theorem i178_47 : xIns xg 178 47 = some (.iconst 0) := by decide +kernel
theorem i178_48 : xIns xg 178 48 = some (.iconst 0) := by decide +kernel
theorem i178_49 : xIns xg 178 49 = some (.invokevirtual 309) := by decide +kernel
theorem i178_0 : xIns xg 178 0 = some (.aload_n 0) := by decide +kernel
theorem i178_1 : xIns xg 178 1 = some (.iconst 0) := by decide +kernel
theorem i178_2 : xIns xg 178 2 = some (.putfield 298) := by decide +kernel
theorem p178_298 : xPut xg 178 298 = some (7, 35, .int) := by decide +kernel
theorem i178_5 : xIns xg 178 5 = some (.iconst 0) := by decide +kernel
theorem i178_6 : xIns xg 178 6 = some (.istore_n 2) := by decide +kernel
def d_x8_prints_123 (N : Nat) (k7 : St → Int → Int → Option Rs) (k97 : St → Int → Int → Int → Int → Option Rs) (s : St) (x1 : Int) (x2 : Int) (x3 : Int) (x4 : Int) : Option Rs :=
  if 0 ≤ (w32 ((8 * x3) + x4)) ∧ (w32 ((8 * x3) + x4)) < ((1536 : Nat) : Int) then bV (d_x8_digits N  s (s 85 (Int.toNat (w32 ((8 * x3) + x4))))) fun s1 => bd (x4 + 1) fun v3 => k97 s1 x1 x2 x3 v3 else none
set_option maxHeartbeats 4000000 in
set_option maxRecDepth 100000 in
theorem c_x8_prints_123 {sc : xS} {d : Nat} {R : Rs} (N : Nat)  (hd : 4 ≤ d) (k7 : St → Int → Int → Option Rs) (hk7 : ∀ (s : St) (x1 : Int) (x2 : Int), k7 s x1 x2 = some R → vT sc d 178 7 [(0, .ref 77), (1, vi x1), (2, vi x2)] [] s (fun r => r = qV R)) (k97 : St → Int → Int → Int → Int → Option Rs) (hk97 : ∀ (s : St) (x1 : Int) (x2 : Int) (x3 : Int) (x4 : Int), k97 s x1 x2 x3 x4 = some R → vT sc d 178 97 [(0, .ref 77), (1, vi x1), (2, vi x2), (3, vi x3), (4, vi x4)] [] s (fun r => r = qV R))  (s : St) (x1 : Int) (x2 : Int) (x3 : Int) (x4 : Int) : d_x8_prints_123 N k7 k97 s x1 x2 x3 x4 = some R → vT sc d 178 123 [(0, .ref 77), (1, vi x1), (2, vi x2), (3, vi x3), (4, vi x4)] [] s (fun r => r = qV R) := by
  obtain ⟨d, rfl⟩ : ∃ d', d = d' + 1 := ⟨d - 1, by omega⟩
  unfold d_x8_prints_123
  refine vLan 124 i178_123 rfl rfl ?_
  refine vLan 125 i178_124 rfl rfl ?_
  refine vGetC 128 i178_125 f178_36 sh_77 rfl rfl ?_
  refine vKb 130 i178_128 (by decide) rfl ?_
  refine vLin 131 i178_130 rfl rfl ?_
  refine vImul 132 i178_131 rfl ?_
  refine vLi 134 i178_132 rfl rfl ?_
  refine vIadd 135 i178_134 rfl ?_
  refine vLal 136 rfl i178_135 sh_85 rfl ?_
  refine vCallV 139 [.ref 77, vl (s 85 (Int.toNat (w32 ((8 * x3) + x4))))] [] [(0, .ref 77), (1, vl (s 85 (Int.toNat (w32 ((8 * x3) + x4)))))] i178_136 rfl (xlk0 l178_316) (Or.inl rfl) m127 rfl rfl (Nat.le_of_ble_eq_true rfl) (Nat.le_of_ble_eq_true rfl) (Nat.le_of_ble_eq_true rfl) (xh0 sh_77 (by decide)) rfl rfl (fun R1 => c_x8_digits N   (by omega) s (s 85 (Int.toNat (w32 ((8 * x3) + x4))))) (fun s1 => ?_)
  refine vInc 142 (fun v3 => [(4, vi v3), (0, .ref 77), (1, vi x1), (2, vi x2), (3, vi x3)]) i178_139 m178 (by decide) rfl (fun _ => rfl) rfl (fun v3 => ?_)
  refine vGo 97 i178_142 rfl ?_
  exact fun hD => tLc [(0, .ref 77), (1, vi x1), (2, vi x2), (3, vi x3), (4, vi v3)] (xNdk [0, 1, 2, 3, 4] rfl (by decide)) (xNdk [4, 0, 1, 2, 3] rfl (by decide)) ⟨rfl, rfl, rfl, rfl, rfl, trivial⟩ (hk97 s1 x1 x2 x3 v3 hD)
def d_x8_prints_97 (N : Nat) (k7 : St → Int → Int → Option Rs) (k97 : St → Int → Int → Int → Int → Option Rs) (s : St) (x1 : Int) (x2 : Int) (x3 : Int) (x4 : Int) : Option Rs :=
  if 0 ≤ (w32 x3) ∧ (w32 x3) < ((192 : Nat) : Int) then (if (w32 x4) < (w32 (s 84 (Int.toNat (w32 x3)))) then (if 0 < (w32 x4) then bV (d_x8_word N  s 44 0 0 0 0) fun s5 => d_x8_prints_123 N k7 k97 s5 x1 x2 x3 x4 else d_x8_prints_123 N k7 k97 s x1 x2 x3 x4) else bd (x2 + 1) fun v4 => k7 s x1 v4) else none
def d_x8_prints_97L (N : Nat) (k7 : St → Int → Int → Option Rs) : Nat → St → Int → Int → Int → Int → Option Rs
  | 0 => fun _ _ _ _ _ => none
  | n + 1 => d_x8_prints_97 N k7 (d_x8_prints_97L N k7 n)
set_option maxHeartbeats 4000000 in
set_option maxRecDepth 100000 in
theorem c_x8_prints_97 {sc : xS} {d : Nat} {R : Rs} (N : Nat)  (hd : 4 ≤ d) (k7 : St → Int → Int → Option Rs) (hk7 : ∀ (s : St) (x1 : Int) (x2 : Int), k7 s x1 x2 = some R → vT sc d 178 7 [(0, .ref 77), (1, vi x1), (2, vi x2)] [] s (fun r => r = qV R))  (k97 : St → Int → Int → Int → Int → Option Rs) (hk97 : ∀ (s : St) (x1 : Int) (x2 : Int) (x3 : Int) (x4 : Int), k97 s x1 x2 x3 x4 = some R → vT sc d 178 97 [(0, .ref 77), (1, vi x1), (2, vi x2), (3, vi x3), (4, vi x4)] [] s (fun r => r = qV R)) (s : St) (x1 : Int) (x2 : Int) (x3 : Int) (x4 : Int) : d_x8_prints_97 N k7 k97 s x1 x2 x3 x4 = some R → vT sc d 178 97 [(0, .ref 77), (1, vi x1), (2, vi x2), (3, vi x3), (4, vi x4)] [] s (fun r => r = qV R) := by
  obtain ⟨d, rfl⟩ : ∃ d', d = d' + 1 := ⟨d - 1, by omega⟩
  unfold d_x8_prints_97
  refine vLi 99 i178_97 rfl rfl ?_
  refine vLan 100 i178_99 rfl rfl ?_
  refine vGetC 103 i178_100 f178_33 sh_77 rfl rfl ?_
  refine vLin 104 i178_103 rfl rfl ?_
  refine vIal 105 rfl i178_104 sh_84 rfl ?_
  refine vCge 145 108 rfl rfl i178_105 rfl rfl ?_ ?_
  · refine vInc 148 (fun v4 => [(2, vi v4), (0, .ref 77), (1, vi x1), (3, vi x3), (4, vi x4)]) i178_145 m178 (by decide) rfl (fun _ => rfl) rfl (fun v4 => ?_)
    refine vGo 7 i178_148 rfl ?_
    exact fun hD => tLc [(0, .ref 77), (1, vi x1), (2, vi v4)] (xNdk [0, 1, 2] rfl (by decide)) (xNdk [2, 0, 1, 3, 4] rfl (by decide)) ⟨rfl, rfl, rfl, trivial⟩ (hk7 s x1 v4 hD)
  · refine vLi 110 i178_108 rfl rfl ?_
    refine vZle 123 113 rfl i178_110 rfl rfl ?_ ?_
    · exact fun hD => c_x8_prints_123 N  hd k7 hk7 k97 hk97 s x1 x2 x3 x4 hD
    · refine vLan 114 i178_113 rfl rfl ?_
      refine vKb 116 i178_114 (by decide) rfl ?_
      refine vK 117 i178_116 rfl ?_
      refine vK 118 i178_117 rfl ?_
      refine vK 119 i178_118 rfl ?_
      refine vK 120 i178_119 rfl ?_
      refine vCallV 123 [.ref 77, vi 44, vi 0, vi 0, vi 0, vi 0] [] [(0, .ref 77), (1, vi 44), (2, vi 0), (3, vi 0), (4, vi 0), (5, vi 0)] i178_120 rfl (xlk0 l178_309) (Or.inl rfl) m196 rfl rfl (Nat.le_of_ble_eq_true rfl) (Nat.le_of_ble_eq_true rfl) (Nat.le_of_ble_eq_true rfl) (xh0 sh_77 (by decide)) rfl rfl (fun R1 => c_x8_word N   (by omega) s 44 0 0 0 0) (fun s5 => ?_)
      exact fun hD => c_x8_prints_123 N  hd k7 hk7 k97 hk97 s5 x1 x2 x3 x4 hD
theorem c_x8_prints_97L {sc : xS} {d : Nat} {R : Rs} (N : Nat)  (hd : 4 ≤ d) (k7 : St → Int → Int → Option Rs) (hk7 : ∀ (s : St) (x1 : Int) (x2 : Int), k7 s x1 x2 = some R → vT sc d 178 7 [(0, .ref 77), (1, vi x1), (2, vi x2)] [] s (fun r => r = qV R))  : ∀ (n : Nat) (s : St) (x1 : Int) (x2 : Int) (x3 : Int) (x4 : Int), d_x8_prints_97L N k7 n s x1 x2 x3 x4 = some R → vT sc d 178 97 [(0, .ref 77), (1, vi x1), (2, vi x2), (3, vi x3), (4, vi x4)] [] s (fun r => r = qV R) := by
  intro n
  induction n with
  | zero => intro s x1 x2 x3 x4 hD; cases hD
  | succ n ih => intro s x1 x2 x3 x4 hD; exact c_x8_prints_97 N  hd k7 hk7 _ ih s x1 x2 x3 x4 hD
def d_x8_prints_94 (N : Nat) (k7 : St → Int → Int → Option Rs) (s : St) (x1 : Int) (x2 : Int) (x3 : Int) : Option Rs :=
  d_x8_prints_97L N k7 N s x1 x2 x3 0
set_option maxHeartbeats 4000000 in
set_option maxRecDepth 100000 in
theorem c_x8_prints_94 {sc : xS} {d : Nat} {R : Rs} (N : Nat)  (hd : 4 ≤ d) (k7 : St → Int → Int → Option Rs) (hk7 : ∀ (s : St) (x1 : Int) (x2 : Int), k7 s x1 x2 = some R → vT sc d 178 7 [(0, .ref 77), (1, vi x1), (2, vi x2)] [] s (fun r => r = qV R))  (s : St) (x1 : Int) (x2 : Int) (x3 : Int) : d_x8_prints_94 N k7 s x1 x2 x3 = some R → vT sc d 178 94 [(0, .ref 77), (1, vi x1), (2, vi x2), (3, vi x3)] [] s (fun r => r = qV R) := by
  obtain ⟨d, rfl⟩ : ∃ d', d = d' + 1 := ⟨d - 1, by omega⟩
  unfold d_x8_prints_94
  refine vK 95 i178_94 rfl ?_
  refine vSi0 97 [(4, vi 0), (0, .ref 77), (1, vi x1), (2, vi x2), (3, vi x3)] i178_95 m178 (by decide) rfl rfl ?_
  exact fun hD => tLc [(0, .ref 77), (1, vi x1), (2, vi x2), (3, vi x3), (4, vi 0)] (xNdk [0, 1, 2, 3, 4] rfl (by decide)) (xNdk [4, 0, 1, 2, 3] rfl (by decide)) ⟨rfl, rfl, rfl, rfl, rfl, trivial⟩ (c_x8_prints_97L N  hd k7 hk7 N s x1 x2 x3 0 hD)
def d_x8_prints_74 (N : Nat) (k7 : St → Int → Int → Option Rs) (s : St) (x1 : Int) (x2 : Int) (x3 : Int) : Option Rs :=
  if 0 ≤ (w32 x3) ∧ (w32 x3) < ((192 : Nat) : Int) then (if (w32 (s 79 (Int.toNat (w32 x3)))) = 1 then if 0 ≤ (w32 x3) ∧ (w32 x3) < ((192 : Nat) : Int) then bV (d_x8_digits N  s (s 83 (Int.toNat (w32 x3)))) fun s7 => d_x8_prints_94 N k7 s7 x1 x2 x3 else none else d_x8_prints_94 N k7 s x1 x2 x3) else none
set_option maxHeartbeats 4000000 in
set_option maxRecDepth 100000 in
theorem c_x8_prints_74 {sc : xS} {d : Nat} {R : Rs} (N : Nat)  (hd : 4 ≤ d) (k7 : St → Int → Int → Option Rs) (hk7 : ∀ (s : St) (x1 : Int) (x2 : Int), k7 s x1 x2 = some R → vT sc d 178 7 [(0, .ref 77), (1, vi x1), (2, vi x2)] [] s (fun r => r = qV R))  (s : St) (x1 : Int) (x2 : Int) (x3 : Int) : d_x8_prints_74 N k7 s x1 x2 x3 = some R → vT sc d 178 74 [(0, .ref 77), (1, vi x1), (2, vi x2), (3, vi x3)] [] s (fun r => r = qV R) := by
  obtain ⟨d, rfl⟩ : ∃ d', d = d' + 1 := ⟨d - 1, by omega⟩
  unfold d_x8_prints_74
  refine vLan 75 i178_74 rfl rfl ?_
  refine vGetC 78 i178_75 f178_17 sh_77 rfl rfl ?_
  refine vLin 79 i178_78 rfl rfl ?_
  refine vIal 80 rfl i178_79 sh_79 rfl ?_
  refine vK 81 i178_80 rfl ?_
  refine vCne 94 84 rfl (show w32 1 = 1 from rfl) i178_81 rfl rfl ?_ ?_
  · exact fun hD => c_x8_prints_94 N  hd k7 hk7 s x1 x2 x3 hD
  · refine vLan 85 i178_84 rfl rfl ?_
    refine vLan 86 i178_85 rfl rfl ?_
    refine vGetC 89 i178_86 f178_30 sh_77 rfl rfl ?_
    refine vLin 90 i178_89 rfl rfl ?_
    refine vLal 91 rfl i178_90 sh_83 rfl ?_
    refine vCallV 94 [.ref 77, vl (s 83 (Int.toNat (w32 x3)))] [] [(0, .ref 77), (1, vl (s 83 (Int.toNat (w32 x3))))] i178_91 rfl (xlk0 l178_316) (Or.inl rfl) m127 rfl rfl (Nat.le_of_ble_eq_true rfl) (Nat.le_of_ble_eq_true rfl) (Nat.le_of_ble_eq_true rfl) (xh0 sh_77 (by decide)) rfl rfl (fun R1 => c_x8_digits N   (by omega) s (s 83 (Int.toNat (w32 x3)))) (fun s7 => ?_)
    exact fun hD => c_x8_prints_94 N  hd k7 hk7 s7 x1 x2 x3 hD
def d_x8_prints_52 (N : Nat) (k7 : St → Int → Int → Option Rs) (s : St) (x1 : Int) (x2 : Int) (x3 : Int) : Option Rs :=
  if 0 ≤ (w32 x3) ∧ (w32 x3) < ((192 : Nat) : Int) then bI (d_x8_isNumbered N  s (s 79 (Int.toNat (w32 x3)))) fun s9 v10 => (if (w32 v10) = 0 then d_x8_prints_74 N k7 s9 x1 x2 x3 else if 0 ≤ (w32 x3) ∧ (w32 x3) < ((192 : Nat) : Int) then bV (d_x8_digits N  s9 (s9 82 (Int.toNat (w32 x3)))) fun s11 => d_x8_prints_74 N k7 s11 x1 x2 x3 else none) else none
set_option maxHeartbeats 4000000 in
set_option maxRecDepth 100000 in
theorem c_x8_prints_52 {sc : xS} {d : Nat} {R : Rs} (N : Nat)  (hd : 4 ≤ d) (k7 : St → Int → Int → Option Rs) (hk7 : ∀ (s : St) (x1 : Int) (x2 : Int), k7 s x1 x2 = some R → vT sc d 178 7 [(0, .ref 77), (1, vi x1), (2, vi x2)] [] s (fun r => r = qV R))  (s : St) (x1 : Int) (x2 : Int) (x3 : Int) : d_x8_prints_52 N k7 s x1 x2 x3 = some R → vT sc d 178 52 [(0, .ref 77), (1, vi x1), (2, vi x2), (3, vi x3)] [] s (fun r => r = qV R) := by
  obtain ⟨d, rfl⟩ : ∃ d', d = d' + 1 := ⟨d - 1, by omega⟩
  unfold d_x8_prints_52
  refine vLan 53 i178_52 rfl rfl ?_
  refine vGetC 56 i178_53 f178_17 sh_77 rfl rfl ?_
  refine vLin 57 i178_56 rfl rfl ?_
  refine vIal 58 rfl i178_57 sh_79 rfl ?_
  refine vCallI 61 [vi (s 79 (Int.toNat (w32 x3)))] [] [(0, vi (s 79 (Int.toNat (w32 x3))))] i178_58 rfl (xlk1 l178_282) (Or.inr (Or.inl rfl)) m147 rfl rfl (Nat.le_of_ble_eq_true rfl) (Nat.le_of_ble_eq_true rfl) (Nat.le_of_ble_eq_true rfl) rfl rfl rfl (fun R1 => c_x8_isNumbered N   (by omega) s (s 79 (Int.toNat (w32 x3)))) (fun s9 v10 => ?_)
  refine vZeq 74 64 rfl i178_61 rfl rfl ?_ ?_
  · exact fun hD => c_x8_prints_74 N  hd k7 hk7 s9 x1 x2 x3 hD
  · refine vLan 65 i178_64 rfl rfl ?_
    refine vLan 66 i178_65 rfl rfl ?_
    refine vGetC 69 i178_66 f178_26 sh_77 rfl rfl ?_
    refine vLin 70 i178_69 rfl rfl ?_
    refine vLal 71 rfl i178_70 sh_82 rfl ?_
    refine vCallV 74 [.ref 77, vl (s9 82 (Int.toNat (w32 x3)))] [] [(0, .ref 77), (1, vl (s9 82 (Int.toNat (w32 x3))))] i178_71 rfl (xlk0 l178_316) (Or.inl rfl) m127 rfl rfl (Nat.le_of_ble_eq_true rfl) (Nat.le_of_ble_eq_true rfl) (Nat.le_of_ble_eq_true rfl) (xh0 sh_77 (by decide)) rfl rfl (fun R1 => c_x8_digits N   (by omega) s9 (s9 82 (Int.toNat (w32 x3)))) (fun s11 => ?_)
    exact fun hD => c_x8_prints_74 N  hd k7 hk7 s11 x1 x2 x3 hD
def d_x8_prints_7 (N : Nat)  (k7 : St → Int → Int → Option Rs) (s : St) (x1 : Int) (x2 : Int) : Option Rs :=
  if 0 ≤ (w32 x1) ∧ (w32 x1) < ((8 : Nat) : Int) then (if (w32 x2) < (w32 (s 78 (Int.toNat (w32 x1)))) then bd ((24 * x1) + x2) fun v13 => bV (d_x8_kindWord N  s v13) fun s14 => if 0 ≤ (w32 v13) ∧ (w32 v13) < ((192 : Nat) : Int) then (if (w32 (s14 80 (Int.toNat (w32 v13)))) = 0 then d_x8_prints_52 N k7 s14 x1 x2 v13 else if 0 ≤ (w32 v13) ∧ (w32 v13) < ((192 : Nat) : Int) then bV (d_x8_word N  s14 (s14 80 (Int.toNat (w32 v13))) 0 0 0 0) fun s16 => d_x8_prints_52 N k7 s16 x1 x2 v13 else none) else none else some (s, 0)) else none
def d_x8_prints_7L (N : Nat)  : Nat → St → Int → Int → Option Rs
  | 0 => fun _ _ _ => none
  | n + 1 => d_x8_prints_7 N  (d_x8_prints_7L N  n)
set_option maxHeartbeats 4000000 in
set_option maxRecDepth 100000 in
theorem c_x8_prints_7 {sc : xS} {d : Nat} {R : Rs} (N : Nat)  (hd : 4 ≤ d)   (k7 : St → Int → Int → Option Rs) (hk7 : ∀ (s : St) (x1 : Int) (x2 : Int), k7 s x1 x2 = some R → vT sc d 178 7 [(0, .ref 77), (1, vi x1), (2, vi x2)] [] s (fun r => r = qV R)) (s : St) (x1 : Int) (x2 : Int) : d_x8_prints_7 N  k7 s x1 x2 = some R → vT sc d 178 7 [(0, .ref 77), (1, vi x1), (2, vi x2)] [] s (fun r => r = qV R) := by
  obtain ⟨d, rfl⟩ : ∃ d', d = d' + 1 := ⟨d - 1, by omega⟩
  unfold d_x8_prints_7
  refine vLin 8 i178_7 rfl rfl ?_
  refine vLan 9 i178_8 rfl rfl ?_
  refine vGetC 12 i178_9 f178_13 sh_77 rfl rfl ?_
  refine vLin 13 i178_12 rfl rfl ?_
  refine vIal 14 rfl i178_13 sh_78 rfl ?_
  refine vCge 151 17 rfl rfl i178_14 rfl rfl ?_ ?_
  · exact vR0 i178_151 m178
  · refine vKb 19 i178_17 (by decide) rfl ?_
    refine vLin 20 i178_19 rfl rfl ?_
    refine vImul 21 i178_20 rfl ?_
    refine vLin 22 i178_21 rfl rfl ?_
    refine vIadd 23 i178_22 rfl ?_
    refine vSin 24 (fun v13 => [(3, vi v13), (0, .ref 77), (1, vi x1), (2, vi x2)]) i178_23 m178 (by decide) (fun v13 => (rfl : xst1 [(0, .ref 77), (1, vi x1), (2, vi x2)] 3 (vi v13) = [(3, vi v13), (0, .ref 77), (1, vi x1), (2, vi x2)])) rfl (fun v13 => ?_)
    refine vLan 25 i178_24 rfl rfl ?_
    refine vLin 26 i178_25 rfl rfl ?_
    refine vCallV 29 [.ref 77, vi v13] [] [(0, .ref 77), (1, vi v13)] i178_26 rfl (xlk0 l178_313) (Or.inl rfl) m159 rfl rfl (Nat.le_of_ble_eq_true rfl) (Nat.le_of_ble_eq_true rfl) (Nat.le_of_ble_eq_true rfl) (xh0 sh_77 (by decide)) rfl rfl (fun R1 => c_x8_kindWord N   (by omega) s v13) (fun s14 => ?_)
    refine vLan 30 i178_29 rfl rfl ?_
    refine vGetC 33 i178_30 f178_20 sh_77 rfl rfl ?_
    refine vLin 34 i178_33 rfl rfl ?_
    refine vIal 35 rfl i178_34 sh_80 rfl ?_
    refine vZeq 52 38 rfl i178_35 rfl rfl ?_ ?_
    · exact fun hD => tLc [(0, .ref 77), (1, vi x1), (2, vi x2), (3, vi v13)] (xNdk [0, 1, 2, 3] rfl (by decide)) (xNdk [3, 0, 1, 2] rfl (by decide)) ⟨rfl, rfl, rfl, rfl, trivial⟩ (c_x8_prints_52 N  hd k7 hk7 s14 x1 x2 v13 hD)
    · refine vLan 39 i178_38 rfl rfl ?_
      refine vLan 40 i178_39 rfl rfl ?_
      refine vGetC 43 i178_40 f178_20 sh_77 rfl rfl ?_
      refine vLin 44 i178_43 rfl rfl ?_
      refine vIal 45 rfl i178_44 sh_80 rfl ?_
      refine vK 46 i178_45 rfl ?_
      refine vK 47 i178_46 rfl ?_
      refine vK 48 i178_47 rfl ?_
      refine vK 49 i178_48 rfl ?_
      refine vCallV 52 [.ref 77, vi (s14 80 (Int.toNat (w32 v13))), vi 0, vi 0, vi 0, vi 0] [] [(0, .ref 77), (1, vi (s14 80 (Int.toNat (w32 v13)))), (2, vi 0), (3, vi 0), (4, vi 0), (5, vi 0)] i178_49 rfl (xlk0 l178_309) (Or.inl rfl) m196 rfl rfl (Nat.le_of_ble_eq_true rfl) (Nat.le_of_ble_eq_true rfl) (Nat.le_of_ble_eq_true rfl) (xh0 sh_77 (by decide)) rfl rfl (fun R1 => c_x8_word N   (by omega) s14 (s14 80 (Int.toNat (w32 v13))) 0 0 0 0) (fun s16 => ?_)
      exact fun hD => tLc [(0, .ref 77), (1, vi x1), (2, vi x2), (3, vi v13)] (xNdk [0, 1, 2, 3] rfl (by decide)) (xNdk [3, 0, 1, 2] rfl (by decide)) ⟨rfl, rfl, rfl, rfl, trivial⟩ (c_x8_prints_52 N  hd k7 hk7 s16 x1 x2 v13 hD)
theorem c_x8_prints_7L {sc : xS} {d : Nat} {R : Rs} (N : Nat)  (hd : 4 ≤ d)   : ∀ (n : Nat) (s : St) (x1 : Int) (x2 : Int), d_x8_prints_7L N  n s x1 x2 = some R → vT sc d 178 7 [(0, .ref 77), (1, vi x1), (2, vi x2)] [] s (fun r => r = qV R) := by
  intro n
  induction n with
  | zero => intro s x1 x2 hD; cases hD
  | succ n ih => intro s x1 x2 hD; exact c_x8_prints_7 N  hd  _ ih s x1 x2 hD
def d_x8_prints (N : Nat)  (s : St) (a0 : Int) : Option Rs :=
  bd (up s 77 35 0) fun s18 => d_x8_prints_7L N  N s18 a0 0
set_option maxHeartbeats 4000000 in
set_option maxRecDepth 100000 in
theorem c_x8_prints {sc : xS} {d : Nat} {R : Rs} (N : Nat)  (hd : 4 ≤ d)   (s : St) (a0 : Int) : d_x8_prints N  s a0 = some R → vT sc d 178 0 [(0, .ref 77), (1, vi a0)] [] s (fun r => r = qV R) := by
  obtain ⟨d, rfl⟩ : ∃ d', d = d' + 1 := ⟨d - 1, by omega⟩
  unfold d_x8_prints
  refine vLan 1 i178_0 rfl rfl ?_
  refine vK 2 i178_1 rfl ?_
  refine vPut 5 i178_2 p178_298 sh_77 rfl rfl (fun s18 => ?_)
  refine vK 6 i178_5 rfl ?_
  refine vSin0 7 [(2, vi 0), (0, .ref 77), (1, vi a0)] i178_6 m178 (by decide) rfl rfl ?_
  exact fun hD => tLc [(0, .ref 77), (1, vi a0), (2, vi 0)] (xNdk [0, 1, 2] rfl (by decide)) (xNdk [2, 0, 1] rfl (by decide)) ⟨rfl, rfl, rfl, trivial⟩ (c_x8_prints_7L N  hd  N s18 a0 0 hD)
theorem f177_13 : xFld xg 177 13 = some (7, 1) := by decide +kernel
theorem f177_298 : xFld xg 177 298 = some (7, 35) := by decide +kernel
theorem f177_91 : xFld xg 177 91 = some (7, 34) := by decide +kernel
theorem i177_0 : xIns xg 177 0 = some (.iload_n 1) := by decide +kernel
theorem i177_1 : xIns xg 177 1 = some (.invokestatic 266) := by decide +kernel
theorem i177_4 : xIns xg 177 4 = some (.ifCond .ne 6) := by decide +kernel
theorem i177_10 : xIns xg 177 10 = some (.aload_n 0) := by decide +kernel
theorem i177_11 : xIns xg 177 11 = some (.getfield 13) := by decide +kernel
theorem i177_14 : xIns xg 177 14 = some (.iload_n 1) := by decide +kernel
theorem i177_15 : xIns xg 177 15 = some (.iaload) := by decide +kernel
theorem i177_16 : xIns xg 177 16 = some (.ifCond .ne 6) := by decide +kernel
theorem i177_22 : xIns xg 177 22 = some (.aload_n 0) := by decide +kernel
theorem i177_23 : xIns xg 177 23 = some (.iload_n 1) := by decide +kernel
theorem i177_24 : xIns xg 177 24 = some (.invokevirtual 320) := by decide +kernel
theorem i177_27 : xIns xg 177 27 = some (.iload_n 2) := by decide +kernel
theorem i177_28 : xIns xg 177 28 = some (.iconst (-1)) := by decide +kernel
theorem i177_29 : xIns xg 177 29 = some (.if_icmp .ne 10) := by decide +kernel
theorem i177_39 : xIns xg 177 39 = some (.iload_n 2) := by decide +kernel
theorem i177_40 : xIns xg 177 40 = some (.i2l) := by decide +kernel
theorem i177_41 : xIns xg 177 41 = some (.lconst 0) := by decide +kernel
theorem i177_42 : xIns xg 177 42 = some (.aload_n 0) := by decide +kernel
theorem i177_43 : xIns xg 177 43 = some (.getfield 298) := by decide +kernel
theorem i177_46 : xIns xg 177 46 = some (.iconst 1) := by decide +kernel
theorem i177_47 : xIns xg 177 47 = some (.isub) := by decide +kernel
theorem i177_48 : xIns xg 177 48 = some (.i2l) := by decide +kernel
theorem i177_49 : xIns xg 177 49 = some (.invokestatic 177) := by decide +kernel
theorem i177_52 : xIns xg 177 52 = some (.ifCond .eq 12) := by decide +kernel
theorem i177_64 : xIns xg 177 64 = some (.bipush (-12)) := by decide +kernel
theorem i177_66 : xIns xg 177 66 = some (.ireturn) := by decide +kernel
theorem m177 : (xMet xg 177).2.2 = (3, (some .int)) := by decide +kernel
theorem i177_55 : xIns xg 177 55 = some (.aload_n 0) := by decide +kernel
theorem i177_56 : xIns xg 177 56 = some (.getfield 91) := by decide +kernel
theorem i177_59 : xIns xg 177 59 = some (.iload_n 2) := by decide +kernel
theorem i177_60 : xIns xg 177 60 = some (.iaload) := by decide +kernel
theorem i177_61 : xIns xg 177 61 = some (.goto 5) := by decide +kernel
theorem i177_32 : xIns xg 177 32 = some (.aload_n 0) := by decide +kernel
theorem i177_33 : xIns xg 177 33 = some (.getfield 298) := by decide +kernel
theorem i177_36 : xIns xg 177 36 = some (.goto 30) := by decide +kernel
theorem i177_19 : xIns xg 177 19 = some (.bipush (-3)) := by decide +kernel
theorem i177_21 : xIns xg 177 21 = some (.ireturn) := by decide +kernel
theorem i177_7 : xIns xg 177 7 = some (.bipush (-2)) := by decide +kernel
theorem i177_9 : xIns xg 177 9 = some (.ireturn) := by decide +kernel
def d_x8_print (N : Nat)  (s : St) (a0 : Int) (a1 : Int) : Option Rs :=
  bI (d_x8_isStream N  s a0) fun s1 v2 => (if (w32 v2) = 0 then some (s1, (-2)) else if 0 ≤ (w32 a0) ∧ (w32 a0) < ((8 : Nat) : Int) then (if (w32 (s1 78 (Int.toNat (w32 a0)))) = 0 then some (s1, (-3)) else bV (d_x8_prints N  s1 a0) fun s3 => (if (w32 a1) = (-1) then some (s3, (s3 77 35)) else bI (d_x8_in N  s3 (w32 a1) 0 (w32 ((s3 77 35) - 1))) fun s5 v6 => (if (w32 v6) = 0 then some (s5, (-12)) else if 0 ≤ (w32 a1) ∧ (w32 a1) < ((4096 : Nat) : Int) then some (s5, (s5 102 (Int.toNat (w32 a1)))) else none))) else none)
set_option maxHeartbeats 4000000 in
set_option maxRecDepth 100000 in
theorem c_x8_print {sc : xS} {d : Nat} {R : Rs} (N : Nat)  (hd : 5 ≤ d)   (s : St) (a0 : Int) (a1 : Int) : d_x8_print N  s a0 a1 = some R → vT sc d 177 0 [(0, .ref 77), (1, vi a0), (2, vi a1)] [] s (fun r => r = qI R) := by
  obtain ⟨d, rfl⟩ : ∃ d', d = d' + 1 := ⟨d - 1, by omega⟩
  unfold d_x8_print
  refine vLin 1 i177_0 rfl rfl ?_
  refine vCallI 4 [vi a0] [] [(0, vi a0)] i177_1 rfl (xlk1 l177_266) (Or.inr (Or.inl rfl)) m153 rfl rfl (Nat.le_of_ble_eq_true rfl) (Nat.le_of_ble_eq_true rfl) (Nat.le_of_ble_eq_true rfl) rfl rfl rfl (fun R1 => c_x8_isStream N   (by omega) s a0) (fun s1 v2 => ?_)
  refine vZne 10 7 rfl i177_4 rfl rfl ?_ ?_
  · refine vLan 11 i177_10 rfl rfl ?_
    refine vGetC 14 i177_11 f177_13 sh_77 rfl rfl ?_
    refine vLin 15 i177_14 rfl rfl ?_
    refine vIal 16 rfl i177_15 sh_78 rfl ?_
    refine vZne 22 19 rfl i177_16 rfl rfl ?_ ?_
    · refine vLan 23 i177_22 rfl rfl ?_
      refine vLin 24 i177_23 rfl rfl ?_
      refine vCallV 27 [.ref 77, vi a0] [] [(0, .ref 77), (1, vi a0)] i177_24 rfl (xlk0 l177_320) (Or.inl rfl) m178 rfl rfl (Nat.le_of_ble_eq_true rfl) (Nat.le_of_ble_eq_true rfl) (Nat.le_of_ble_eq_true rfl) (xh0 sh_77 (by decide)) rfl rfl (fun R1 => c_x8_prints N   (by omega) s1 a0) (fun s3 => ?_)
      refine vLin 28 i177_27 rfl rfl ?_
      refine vK 29 i177_28 rfl ?_
      refine vCne 39 32 rfl (show w32 (-1) = (-1) from rfl) i177_29 rfl rfl ?_ ?_
      · refine vLin 40 i177_39 rfl rfl ?_
        refine vI2l 41 i177_40 rfl ?_
        refine vKl 42 0 i177_41 (by decide) rfl ?_
        refine vLan 43 i177_42 rfl rfl ?_
        refine vGet 46 i177_43 f177_298 sh_77 rfl rfl ?_
        refine vK 47 i177_46 rfl ?_
        refine vIsub 48 i177_47 rfl ?_
        refine vI2l 49 i177_48 rfl ?_
        refine vCallI 52 [vl (w32 a1), vl 0, vl (w32 ((s3 77 35) - 1))] [] [(0, vl (w32 a1)), (2, vl 0), (4, vl (w32 ((s3 77 35) - 1)))] i177_49 rfl (xlk1 l177_177) (Or.inr (Or.inl rfl)) m142 rfl rfl (Nat.le_of_ble_eq_true rfl) (Nat.le_of_ble_eq_true rfl) (Nat.le_of_ble_eq_true rfl) rfl rfl rfl (fun R1 => c_x8_in N   (by omega) s3 (w32 a1) 0 (w32 ((s3 77 35) - 1))) (fun s5 v6 => ?_)
        refine vZeq 64 55 rfl i177_52 rfl rfl ?_ ?_
        · refine vKb 66 i177_64 (by decide) rfl ?_
          exact vRi i177_66 m177 rfl
        · refine vLan 56 i177_55 rfl rfl ?_
          refine vGetC 59 i177_56 f177_91 sh_77 rfl rfl ?_
          refine vLin 60 i177_59 rfl rfl ?_
          refine vIal 61 rfl i177_60 sh_102 rfl ?_
          refine vGo 66 i177_61 rfl ?_
          exact vRi i177_66 m177 rfl
      · refine vLan 33 i177_32 rfl rfl ?_
        refine vGet 36 i177_33 f177_298 sh_77 rfl rfl ?_
        refine vGo 66 i177_36 rfl ?_
        exact vRi i177_66 m177 rfl
    · refine vKb 21 i177_19 (by decide) rfl ?_
      exact vRi i177_21 m177 rfl
  · refine vKb 9 i177_7 (by decide) rfl ?_
    exact vRi i177_9 m177 rfl
theorem i121_0 : xIns xg 121 0 = some (.aload_n 0) := by decide +kernel
theorem i121_1 : xIns xg 121 1 = some (.iconst 0) := by decide +kernel
theorem i121_2 : xIns xg 121 2 = some (.putfield 326) := by decide +kernel
theorem p121_326 : xPut xg 121 326 = some (7, 36, .int) := by decide +kernel
theorem i121_5 : xIns xg 121 5 = some (.aload_n 0) := by decide +kernel
theorem i121_6 : xIns xg 121 6 = some (.iload_n 1) := by decide +kernel
theorem i121_7 : xIns xg 121 7 = some (.putfield 329) := by decide +kernel
theorem p121_329 : xPut xg 121 329 = some (7, 37, .int) := by decide +kernel
theorem i121_10 : xIns xg 121 10 = some (.return_) := by decide +kernel
theorem m121 : (xMet xg 121).2.2 = (2, none) := by decide +kernel
def d_x8_begins (N : Nat)  (s : St) (a0 : Int) : Option Rs :=
  bd (up s 77 36 0) fun s1 => bd (up s1 77 37 a0) fun s2 => some (s2, 0)
set_option maxHeartbeats 4000000 in
set_option maxRecDepth 100000 in
theorem c_x8_begins {sc : xS} {d : Nat} {R : Rs} (N : Nat)  (hd : 0 ≤ d)   (s : St) (a0 : Int) : d_x8_begins N  s a0 = some R → vT sc d 121 0 [(0, .ref 77), (1, vi a0)] [] s (fun r => r = qV R) := by
  unfold d_x8_begins
  refine vLan 1 i121_0 rfl rfl ?_
  refine vK 2 i121_1 rfl ?_
  refine vPut 5 i121_2 p121_326 sh_77 rfl rfl (fun s1 => ?_)
  refine vLan 6 i121_5 rfl rfl ?_
  refine vLin 7 i121_6 rfl rfl ?_
  refine vPut 10 i121_7 p121_329 sh_77 rfl rfl (fun s2 => ?_)
  exact vR0 i121_10 m121
theorem f125_26 : xFld xg 125 26 = some (7, 5) := by decide +kernel
theorem f125_351 : xFld xg 125 351 = some (7, 38) := by decide +kernel
theorem i125_14 : xIns xg 125 14 = some (.iload 6) := by decide +kernel
theorem i125_16 : xIns xg 125 16 = some (.iload_n 3) := by decide +kernel
theorem i125_17 : xIns xg 125 17 = some (.if_icmp .ge 42) := by decide +kernel
theorem i125_59 : xIns xg 125 59 = some (.aload_n 0) := by decide +kernel
theorem i125_60 : xIns xg 125 60 = some (.lload 4) := by decide +kernel
theorem i125_62 : xIns xg 125 62 = some (.putfield 351) := by decide +kernel
theorem p125_351 : xPut xg 125 351 = some (7, 38, .long) := by decide +kernel
theorem i125_65 : xIns xg 125 65 = some (.iconst 1) := by decide +kernel
theorem i125_66 : xIns xg 125 66 = some (.ireturn) := by decide +kernel
theorem m125 : (xMet xg 125).2.2 = (8, (some .int)) := by decide +kernel
theorem i125_20 : xIns xg 125 20 = some (.aload_n 0) := by decide +kernel
theorem i125_21 : xIns xg 125 21 = some (.iload_n 1) := by decide +kernel
theorem i125_22 : xIns xg 125 22 = some (.iconst 1) := by decide +kernel
theorem i125_23 : xIns xg 125 23 = some (.iadd) := by decide +kernel
theorem i125_24 : xIns xg 125 24 = some (.iload_n 3) := by decide +kernel
theorem i125_25 : xIns xg 125 25 = some (.iload_n 2) := by decide +kernel
theorem i125_26 : xIns xg 125 26 = some (.imul) := by decide +kernel
theorem i125_27 : xIns xg 125 27 = some (.iload 6) := by decide +kernel
theorem i125_29 : xIns xg 125 29 = some (.iadd) := by decide +kernel
theorem i125_30 : xIns xg 125 30 = some (.invokevirtual 348) := by decide +kernel
theorem m140 : (xMet xg 140).2.2 = (6, (some .int)) := by decide +kernel
theorem i125_33 : xIns xg 125 33 = some (.istore 7) := by decide +kernel
theorem i125_35 : xIns xg 125 35 = some (.iload 7) := by decide +kernel
theorem i125_37 : xIns xg 125 37 = some (.iconst 1) := by decide +kernel
theorem i125_38 : xIns xg 125 38 = some (.if_icmp .eq 6) := by decide +kernel
theorem i125_44 : xIns xg 125 44 = some (.lload 4) := by decide +kernel
theorem i125_46 : xIns xg 125 46 = some (.aload_n 0) := by decide +kernel
theorem i125_47 : xIns xg 125 47 = some (.getfield 351) := by decide +kernel
theorem i125_50 : xIns xg 125 50 = some (.ladd) := by decide +kernel
theorem i125_51 : xIns xg 125 51 = some (.lstore 4) := by decide +kernel
theorem i125_53 : xIns xg 125 53 = some (.iinc 6 1) := by decide +kernel
theorem i125_56 : xIns xg 125 56 = some (.goto (-42)) := by decide +kernel
theorem i125_41 : xIns xg 125 41 = some (.iload 7) := by decide +kernel
theorem i125_43 : xIns xg 125 43 = some (.ireturn) := by decide +kernel
theorem i125_0 : xIns xg 125 0 = some (.aload_n 0) := by decide +kernel
theorem i125_1 : xIns xg 125 1 = some (.getfield 26) := by decide +kernel
theorem i125_4 : xIns xg 125 4 = some (.iload_n 1) := by decide +kernel
theorem i125_5 : xIns xg 125 5 = some (.laload) := by decide +kernel
theorem i125_6 : xIns xg 125 6 = some (.l2i) := by decide +kernel
theorem i125_7 : xIns xg 125 7 = some (.istore_n 3) := by decide +kernel
theorem i125_8 : xIns xg 125 8 = some (.lconst 0) := by decide +kernel
theorem i125_9 : xIns xg 125 9 = some (.lstore 4) := by decide +kernel
theorem i125_11 : xIns xg 125 11 = some (.iconst 0) := by decide +kernel
theorem i125_12 : xIns xg 125 12 = some (.istore 6) := by decide +kernel
def d_x8_cuts_14 (N : Nat) (r_place : St → Int → Int → Option Rs) (r_headAsked : St → Int → Int → Option Rs)  (k14 : St → Int → Int → Int → Int → Int → Option Rs) (s : St) (x1 : Int) (x2 : Int) (x3 : Int) (x4 : Int) (x6 : Int) : Option Rs :=
  (if (w32 x6) < (w32 x3) then bI (r_headAsked s (x1 + 1) ((x3 * x2) + x6)) fun s2 v3 => (if (w32 v3) = 1 then bd (x4 + (s2 77 38)) fun v4 => bd (x6 + 1) fun v5 => k14 s2 x1 x2 x3 v4 v5 else some (s2, v3)) else bd (up s 77 38 x4) fun s1 => some (s1, 1))
def d_x8_cuts_14L (N : Nat) (r_place : St → Int → Int → Option Rs) (r_headAsked : St → Int → Int → Option Rs)  : Nat → St → Int → Int → Int → Int → Int → Option Rs
  | 0 => fun _ _ _ _ _ _ => none
  | n + 1 => d_x8_cuts_14 N r_place r_headAsked  (d_x8_cuts_14L N r_place r_headAsked  n)
set_option maxHeartbeats 4000000 in
set_option maxRecDepth 100000 in
theorem c_x8_cuts_14 {sc : xS} {d : Nat} {R : Rs} (N : Nat) (r_place : St → Int → Int → Option Rs) (r_headAsked : St → Int → Int → Option Rs) (e : Nat) (hr_place : ∀ d, e ≤ d → ∀ (s : St) (a0 a1 : Int) (R : Rs), r_place s a0 a1 = some R → vT sc d 175 0 [(0, .ref 77), (1, vi a0), (2, vi a1)] [] s (fun r => r = qI R)) (hr_headAsked : ∀ d, e ≤ d → ∀ (s : St) (a0 a1 : Int) (R : Rs), r_headAsked s a0 a1 = some R → vT sc d 140 0 [(0, .ref 77), (1, vi a0), (2, vi a1)] [] s (fun r => r = qI R)) (hd : e + 1 ≤ d)   (k14 : St → Int → Int → Int → Int → Int → Option Rs) (hk14 : ∀ (s : St) (x1 : Int) (x2 : Int) (x3 : Int) (x4 : Int) (x6 : Int), k14 s x1 x2 x3 x4 x6 = some R → vT sc d 125 14 [(0, .ref 77), (1, vi x1), (2, vi x2), (3, vi x3), (4, vl x4), (6, vi x6)] [] s (fun r => r = qI R)) (s : St) (x1 : Int) (x2 : Int) (x3 : Int) (x4 : Int) (x6 : Int) : d_x8_cuts_14 N r_place r_headAsked  k14 s x1 x2 x3 x4 x6 = some R → vT sc d 125 14 [(0, .ref 77), (1, vi x1), (2, vi x2), (3, vi x3), (4, vl x4), (6, vi x6)] [] s (fun r => r = qI R) := by
  obtain ⟨d, rfl⟩ : ∃ d', d = d' + 1 := ⟨d - 1, by omega⟩
  unfold d_x8_cuts_14
  refine vLi 16 i125_14 rfl rfl ?_
  refine vLin 17 i125_16 rfl rfl ?_
  refine vCge 59 20 rfl rfl i125_17 rfl rfl ?_ ?_
  · refine vLan 60 i125_59 rfl rfl ?_
    refine vLl 62 i125_60 rfl rfl ?_
    refine vPutL 65 i125_62 p125_351 sh_77 rfl rfl (fun s1 => ?_)
    refine vK 66 i125_65 rfl ?_
    exact vRi i125_66 m125 rfl
  · refine vLan 21 i125_20 rfl rfl ?_
    refine vLin 22 i125_21 rfl rfl ?_
    refine vK 23 i125_22 rfl ?_
    refine vIadd 24 i125_23 rfl ?_
    refine vLin 25 i125_24 rfl rfl ?_
    refine vLin 26 i125_25 rfl rfl ?_
    refine vImul 27 i125_26 rfl ?_
    refine vLi 29 i125_27 rfl rfl ?_
    refine vIadd 30 i125_29 rfl ?_
    refine vCallI 33 [.ref 77, vi (x1 + 1), vi ((x3 * x2) + x6)] [] [(0, .ref 77), (1, vi (x1 + 1)), (2, vi ((x3 * x2) + x6))] i125_30 rfl (xlk0 l125_348) (Or.inl rfl) m140 rfl rfl (Nat.le_of_ble_eq_true rfl) (Nat.le_of_ble_eq_true rfl) (Nat.le_of_ble_eq_true rfl) (xh0 sh_77 (by decide)) rfl rfl (hr_headAsked d (by omega) s (x1 + 1) ((x3 * x2) + x6)) (fun s2 v3 => ?_)
    refine vSi0 35 [(7, vi v3), (0, .ref 77), (1, vi x1), (2, vi x2), (3, vi x3), (4, vl x4), (6, vi x6)] i125_33 m125 (by decide) rfl rfl ?_
    refine vLi 37 i125_35 rfl rfl ?_
    refine vK 38 i125_37 rfl ?_
    refine vCeq 44 41 rfl (show w32 1 = 1 from rfl) i125_38 rfl rfl ?_ ?_
    · refine vLl 46 i125_44 rfl rfl ?_
      refine vLan 47 i125_46 rfl rfl ?_
      refine vGetL 50 i125_47 f125_351 sh_77 rfl rfl ?_
      refine vLadd 51 i125_50 rfl ?_
      refine vSl 53 (fun v4 => [(4, vl v4), (7, vi v3), (0, .ref 77), (1, vi x1), (2, vi x2), (3, vi x3), (6, vi x6)]) i125_51 m125 (by decide) (fun v4 => (rfl : xst2 [(7, vi v3), (0, .ref 77), (1, vi x1), (2, vi x2), (3, vi x3), (4, vl x4), (6, vi x6)] 4 (vl v4) = [(4, vl v4), (7, vi v3), (0, .ref 77), (1, vi x1), (2, vi x2), (3, vi x3), (6, vi x6)])) rfl (fun v4 => ?_)
      refine vInc 56 (fun v5 => [(6, vi v5), (4, vl v4), (7, vi v3), (0, .ref 77), (1, vi x1), (2, vi x2), (3, vi x3)]) i125_53 m125 (by decide) rfl (fun _ => rfl) rfl (fun v5 => ?_)
      refine vGo 14 i125_56 rfl ?_
      exact fun hD => tLc [(0, .ref 77), (1, vi x1), (2, vi x2), (3, vi x3), (4, vl v4), (6, vi v5)] (xNdk [0, 1, 2, 3, 4, 6] rfl (by decide)) (xNdk [6, 4, 7, 0, 1, 2, 3] rfl (by decide)) ⟨rfl, rfl, rfl, rfl, rfl, rfl, trivial⟩ (hk14 s2 x1 x2 x3 v4 v5 hD)
    · refine vLi 43 i125_41 rfl rfl ?_
      exact vRi i125_43 m125 rfl
theorem c_x8_cuts_14L {sc : xS} {d : Nat} {R : Rs} (N : Nat) (r_place : St → Int → Int → Option Rs) (r_headAsked : St → Int → Int → Option Rs) (e : Nat) (hr_place : ∀ d, e ≤ d → ∀ (s : St) (a0 a1 : Int) (R : Rs), r_place s a0 a1 = some R → vT sc d 175 0 [(0, .ref 77), (1, vi a0), (2, vi a1)] [] s (fun r => r = qI R)) (hr_headAsked : ∀ d, e ≤ d → ∀ (s : St) (a0 a1 : Int) (R : Rs), r_headAsked s a0 a1 = some R → vT sc d 140 0 [(0, .ref 77), (1, vi a0), (2, vi a1)] [] s (fun r => r = qI R)) (hd : e + 1 ≤ d)   : ∀ (n : Nat) (s : St) (x1 : Int) (x2 : Int) (x3 : Int) (x4 : Int) (x6 : Int), d_x8_cuts_14L N r_place r_headAsked  n s x1 x2 x3 x4 x6 = some R → vT sc d 125 14 [(0, .ref 77), (1, vi x1), (2, vi x2), (3, vi x3), (4, vl x4), (6, vi x6)] [] s (fun r => r = qI R) := by
  intro n
  induction n with
  | zero => intro s x1 x2 x3 x4 x6 hD; cases hD
  | succ n ih => intro s x1 x2 x3 x4 x6 hD; exact c_x8_cuts_14 N r_place r_headAsked e hr_place hr_headAsked hd  _ ih s x1 x2 x3 x4 x6 hD
def d_x8_cuts (N : Nat) (r_place : St → Int → Int → Option Rs) (r_headAsked : St → Int → Int → Option Rs)  (s : St) (a0 : Int) (a1 : Int) : Option Rs :=
  if 0 ≤ (w32 a0) ∧ (w32 a0) < ((192 : Nat) : Int) then bd (s 82 (Int.toNat (w32 a0))) fun v6 => d_x8_cuts_14L N r_place r_headAsked  N s a0 a1 v6 0 0 else none
set_option maxHeartbeats 4000000 in
set_option maxRecDepth 100000 in
theorem c_x8_cuts {sc : xS} {d : Nat} {R : Rs} (N : Nat) (r_place : St → Int → Int → Option Rs) (r_headAsked : St → Int → Int → Option Rs) (e : Nat) (hr_place : ∀ d, e ≤ d → ∀ (s : St) (a0 a1 : Int) (R : Rs), r_place s a0 a1 = some R → vT sc d 175 0 [(0, .ref 77), (1, vi a0), (2, vi a1)] [] s (fun r => r = qI R)) (hr_headAsked : ∀ d, e ≤ d → ∀ (s : St) (a0 a1 : Int) (R : Rs), r_headAsked s a0 a1 = some R → vT sc d 140 0 [(0, .ref 77), (1, vi a0), (2, vi a1)] [] s (fun r => r = qI R)) (hd : e + 1 ≤ d)   (s : St) (a0 : Int) (a1 : Int) : d_x8_cuts N r_place r_headAsked  s a0 a1 = some R → vT sc d 125 0 [(0, .ref 77), (1, vi a0), (2, vi a1)] [] s (fun r => r = qI R) := by
  obtain ⟨d, rfl⟩ : ∃ d', d = d' + 1 := ⟨d - 1, by omega⟩
  unfold d_x8_cuts
  refine vLan 1 i125_0 rfl rfl ?_
  refine vGetC 4 i125_1 f125_26 sh_77 rfl rfl ?_
  refine vLin 5 i125_4 rfl rfl ?_
  refine vLal 6 rfl i125_5 sh_82 rfl ?_
  refine vL2i 7 i125_6 rfl ?_
  refine vSin 8 (fun v6 => [(3, vi v6), (0, .ref 77), (1, vi a0), (2, vi a1)]) i125_7 m125 (by decide) (fun v6 => (rfl : xst1 [(0, .ref 77), (1, vi a0), (2, vi a1)] 3 (vi v6) = [(3, vi v6), (0, .ref 77), (1, vi a0), (2, vi a1)])) rfl (fun v6 => ?_)
  refine vKl 9 0 i125_8 (by decide) rfl ?_
  refine vSl0 11 [(4, vl 0), (3, vi v6), (0, .ref 77), (1, vi a0), (2, vi a1)] i125_9 m125 (by decide) rfl rfl ?_
  refine vK 12 i125_11 rfl ?_
  refine vSi0 14 [(6, vi 0), (4, vl 0), (3, vi v6), (0, .ref 77), (1, vi a0), (2, vi a1)] i125_12 m125 (by decide) rfl rfl ?_
  exact fun hD => tLc [(0, .ref 77), (1, vi a0), (2, vi a1), (3, vi v6), (4, vl 0), (6, vi 0)] (xNdk [0, 1, 2, 3, 4, 6] rfl (by decide)) (xNdk [6, 4, 3, 0, 1, 2] rfl (by decide)) ⟨rfl, rfl, rfl, rfl, rfl, rfl, trivial⟩ (c_x8_cuts_14L N r_place r_headAsked e hr_place hr_headAsked hd  N s a0 a1 v6 0 0 hD)
theorem i156_79 : xIns xg 156 79 = some (.putfield 351) := by decide +kernel
theorem p156_351 : xPut xg 156 351 = some (7, 38, .long) := by decide +kernel
theorem i156_82 : xIns xg 156 82 = some (.iconst 1) := by decide +kernel
theorem i156_83 : xIns xg 156 83 = some (.ireturn) := by decide +kernel
theorem m156 : (xMet xg 156).2.2 = (6, (some .int)) := by decide +kernel
theorem i156_22 : xIns xg 156 22 = some (.aload_n 0) := by decide +kernel
theorem i156_23 : xIns xg 156 23 = some (.iload_n 1) := by decide +kernel
theorem i156_24 : xIns xg 156 24 = some (.bipush 43) := by decide +kernel
theorem i156_26 : xIns xg 156 26 = some (.if_icmp .ne 10) := by decide +kernel
theorem i156_36 : xIns xg 156 36 = some (.iload_n 1) := by decide +kernel
theorem i156_37 : xIns xg 156 37 = some (.bipush 45) := by decide +kernel
theorem i156_39 : xIns xg 156 39 = some (.if_icmp .ne 10) := by decide +kernel
theorem i156_49 : xIns xg 156 49 = some (.iload_n 1) := by decide +kernel
theorem i156_50 : xIns xg 156 50 = some (.bipush 42) := by decide +kernel
theorem i156_52 : xIns xg 156 52 = some (.if_icmp .ne 10) := by decide +kernel
theorem i156_62 : xIns xg 156 62 = some (.iload_n 1) := by decide +kernel
theorem i156_63 : xIns xg 156 63 = some (.bipush 47) := by decide +kernel
theorem i156_65 : xIns xg 156 65 = some (.if_icmp .ne 10) := by decide +kernel
theorem i156_75 : xIns xg 156 75 = some (.lload_n 2) := by decide +kernel
theorem i156_76 : xIns xg 156 76 = some (.lload 4) := by decide +kernel
theorem i156_78 : xIns xg 156 78 = some (.lrem) := by decide +kernel
theorem i156_68 : xIns xg 156 68 = some (.lload_n 2) := by decide +kernel
theorem i156_69 : xIns xg 156 69 = some (.lload 4) := by decide +kernel
theorem i156_71 : xIns xg 156 71 = some (.ldiv) := by decide +kernel
theorem i156_72 : xIns xg 156 72 = some (.goto 7) := by decide +kernel
theorem i156_55 : xIns xg 156 55 = some (.lload_n 2) := by decide +kernel
theorem i156_56 : xIns xg 156 56 = some (.lload 4) := by decide +kernel
theorem i156_58 : xIns xg 156 58 = some (.lmul) := by decide +kernel
theorem i156_59 : xIns xg 156 59 = some (.goto 20) := by decide +kernel
theorem i156_42 : xIns xg 156 42 = some (.lload_n 2) := by decide +kernel
theorem i156_43 : xIns xg 156 43 = some (.lload 4) := by decide +kernel
theorem i156_45 : xIns xg 156 45 = some (.lsub) := by decide +kernel
theorem i156_46 : xIns xg 156 46 = some (.goto 33) := by decide +kernel
theorem i156_29 : xIns xg 156 29 = some (.lload_n 2) := by decide +kernel
theorem i156_30 : xIns xg 156 30 = some (.lload 4) := by decide +kernel
theorem i156_32 : xIns xg 156 32 = some (.ladd) := by decide +kernel
theorem i156_33 : xIns xg 156 33 = some (.goto 46) := by decide +kernel
theorem i156_12 : xIns xg 156 12 = some (.lload 4) := by decide +kernel
theorem i156_14 : xIns xg 156 14 = some (.lconst 0) := by decide +kernel
theorem i156_15 : xIns xg 156 15 = some (.lcmp) := by decide +kernel
theorem i156_16 : xIns xg 156 16 = some (.ifCond .ne 6) := by decide +kernel
theorem i156_19 : xIns xg 156 19 = some (.bipush (-22)) := by decide +kernel
theorem i156_21 : xIns xg 156 21 = some (.ireturn) := by decide +kernel
theorem i156_0 : xIns xg 156 0 = some (.iload_n 1) := by decide +kernel
theorem i156_1 : xIns xg 156 1 = some (.bipush 47) := by decide +kernel
theorem i156_3 : xIns xg 156 3 = some (.if_icmp .eq 9) := by decide +kernel
theorem i156_6 : xIns xg 156 6 = some (.iload_n 1) := by decide +kernel
theorem i156_7 : xIns xg 156 7 = some (.bipush 37) := by decide +kernel
theorem i156_9 : xIns xg 156 9 = some (.if_icmp .ne 13) := by decide +kernel
def d_x8_joined_79 (N : Nat)  (s : St) (z0 : Int) : Option Rs :=
  bd (up s 77 38 z0) fun s1 => some (s1, 1)
set_option maxHeartbeats 4000000 in
set_option maxRecDepth 100000 in
theorem c_x8_joined_79 {sc : xS} {d : Nat} {R : Rs} (N : Nat)  (hd : 0 ≤ d)   (s : St) (z0 : Int) : d_x8_joined_79 N  s z0 = some R → vT sc d 156 79 [] [vl z0, .ref 77] s (fun r => r = qI R) := by
  unfold d_x8_joined_79
  refine vPutL 82 i156_79 p156_351 sh_77 rfl rfl (fun s1 => ?_)
  refine vK 83 i156_82 rfl ?_
  exact vRi i156_83 m156 rfl
def d_x8_joined_22 (N : Nat)  (s : St) (x1 : Int) (x2 : Int) (x4 : Int) : Option Rs :=
  (if (w32 x1) = 43 then d_x8_joined_79 N  s (x2 + x4) else (if (w32 x1) = 45 then d_x8_joined_79 N  s (x2 - x4) else (if (w32 x1) = 42 then d_x8_joined_79 N  s (x2 * x4) else (if (w32 x1) = 47 then if (w64 x4) = 0 then none else d_x8_joined_79 N  s (Int.tdiv (w64 x2) (w64 x4)) else if (w64 x4) = 0 then none else d_x8_joined_79 N  s (Int.tmod (w64 x2) (w64 x4))))))
set_option maxHeartbeats 4000000 in
set_option maxRecDepth 100000 in
theorem c_x8_joined_22 {sc : xS} {d : Nat} {R : Rs} (N : Nat)  (hd : 0 ≤ d)   (s : St) (x1 : Int) (x2 : Int) (x4 : Int) : d_x8_joined_22 N  s x1 x2 x4 = some R → vT sc d 156 22 [(0, .ref 77), (1, vi x1), (2, vl x2), (4, vl x4)] [] s (fun r => r = qI R) := by
  unfold d_x8_joined_22
  refine vLan 23 i156_22 rfl rfl ?_
  refine vLin 24 i156_23 rfl rfl ?_
  refine vKb 26 i156_24 (by decide) rfl ?_
  refine vCne 36 29 rfl (show w32 43 = 43 from rfl) i156_26 rfl rfl ?_ ?_
  · refine vLin 37 i156_36 rfl rfl ?_
    refine vKb 39 i156_37 (by decide) rfl ?_
    refine vCne 49 42 rfl (show w32 45 = 45 from rfl) i156_39 rfl rfl ?_ ?_
    · refine vLin 50 i156_49 rfl rfl ?_
      refine vKb 52 i156_50 (by decide) rfl ?_
      refine vCne 62 55 rfl (show w32 42 = 42 from rfl) i156_52 rfl rfl ?_ ?_
      · refine vLin 63 i156_62 rfl rfl ?_
        refine vKb 65 i156_63 (by decide) rfl ?_
        refine vCne 75 68 rfl (show w32 47 = 47 from rfl) i156_65 rfl rfl ?_ ?_
        · refine vLln 76 i156_75 rfl rfl ?_
          refine vLl 78 i156_76 rfl rfl ?_
          refine vLrem 79 rfl rfl i156_78 rfl ?_
          exact fun hD => tLc [] (xNdk [] rfl (by decide)) (xNdk [0, 1, 2, 4] rfl (by decide)) trivial (c_x8_joined_79 N  hd  s (Int.tmod (w64 x2) (w64 x4)) hD)
        · refine vLln 69 i156_68 rfl rfl ?_
          refine vLl 71 i156_69 rfl rfl ?_
          refine vLdiv 72 rfl rfl i156_71 rfl ?_
          refine vGo 79 i156_72 rfl ?_
          exact fun hD => tLc [] (xNdk [] rfl (by decide)) (xNdk [0, 1, 2, 4] rfl (by decide)) trivial (c_x8_joined_79 N  hd  s (Int.tdiv (w64 x2) (w64 x4)) hD)
      · refine vLln 56 i156_55 rfl rfl ?_
        refine vLl 58 i156_56 rfl rfl ?_
        refine vLmul 59 i156_58 rfl ?_
        refine vGo 79 i156_59 rfl ?_
        exact fun hD => tLc [] (xNdk [] rfl (by decide)) (xNdk [0, 1, 2, 4] rfl (by decide)) trivial (c_x8_joined_79 N  hd  s (x2 * x4) hD)
    · refine vLln 43 i156_42 rfl rfl ?_
      refine vLl 45 i156_43 rfl rfl ?_
      refine vLsub 46 i156_45 rfl ?_
      refine vGo 79 i156_46 rfl ?_
      exact fun hD => tLc [] (xNdk [] rfl (by decide)) (xNdk [0, 1, 2, 4] rfl (by decide)) trivial (c_x8_joined_79 N  hd  s (x2 - x4) hD)
  · refine vLln 30 i156_29 rfl rfl ?_
    refine vLl 32 i156_30 rfl rfl ?_
    refine vLadd 33 i156_32 rfl ?_
    refine vGo 79 i156_33 rfl ?_
    exact fun hD => tLc [] (xNdk [] rfl (by decide)) (xNdk [0, 1, 2, 4] rfl (by decide)) trivial (c_x8_joined_79 N  hd  s (x2 + x4) hD)
def d_x8_joined_12 (N : Nat)  (s : St) (x1 : Int) (x2 : Int) (x4 : Int) : Option Rs :=
  (if (w64 x4) = 0 then some (s, (-22)) else d_x8_joined_22 N  s x1 x2 x4)
set_option maxHeartbeats 4000000 in
set_option maxRecDepth 100000 in
theorem c_x8_joined_12 {sc : xS} {d : Nat} {R : Rs} (N : Nat)  (hd : 0 ≤ d)   (s : St) (x1 : Int) (x2 : Int) (x4 : Int) : d_x8_joined_12 N  s x1 x2 x4 = some R → vT sc d 156 12 [(0, .ref 77), (1, vi x1), (2, vl x2), (4, vl x4)] [] s (fun r => r = qI R) := by
  unfold d_x8_joined_12
  refine vLl 14 i156_12 rfl rfl ?_
  refine vKl 15 0 i156_14 (by decide) rfl ?_
  refine vLcne 22 16 19 rfl (show w64 0 = 0 from rfl) i156_15 rfl i156_16 rfl rfl ?_ ?_
  · exact fun hD => c_x8_joined_22 N  hd  s x1 x2 x4 hD
  · refine vKb 21 i156_19 (by decide) rfl ?_
    exact vRi i156_21 m156 rfl
def d_x8_joined (N : Nat)  (s : St) (a0 : Int) (a1 : Int) (a2 : Int) : Option Rs :=
  (if (w32 a0) = 47 then d_x8_joined_12 N  s a0 a1 a2 else (if (w32 a0) = 37 then d_x8_joined_12 N  s a0 a1 a2 else d_x8_joined_22 N  s a0 a1 a2))
set_option maxHeartbeats 4000000 in
set_option maxRecDepth 100000 in
theorem c_x8_joined {sc : xS} {d : Nat} {R : Rs} (N : Nat)  (hd : 0 ≤ d)   (s : St) (a0 : Int) (a1 : Int) (a2 : Int) : d_x8_joined N  s a0 a1 a2 = some R → vT sc d 156 0 [(0, .ref 77), (1, vi a0), (2, vl a1), (4, vl a2)] [] s (fun r => r = qI R) := by
  unfold d_x8_joined
  refine vLin 1 i156_0 rfl rfl ?_
  refine vKb 3 i156_1 (by decide) rfl ?_
  refine vCeq 12 6 rfl (show w32 47 = 47 from rfl) i156_3 rfl rfl ?_ ?_
  · exact fun hD => c_x8_joined_12 N  hd  s a0 a1 a2 hD
  · refine vLin 7 i156_6 rfl rfl ?_
    refine vKb 9 i156_7 (by decide) rfl ?_
    refine vCne 22 12 rfl (show w32 37 = 37 from rfl) i156_9 rfl rfl ?_ ?_
    · exact fun hD => c_x8_joined_22 N  hd  s a0 a1 a2 hD
    · exact fun hD => c_x8_joined_12 N  hd  s a0 a1 a2 hD
theorem f171_23 : xFld xg 171 23 = some (7, 4) := by decide +kernel
theorem i171_0 : xIns xg 171 0 = some (.iload_n 1) := by decide +kernel
theorem i171_1 : xIns xg 171 1 = some (.iconst 1) := by decide +kernel
theorem i171_2 : xIns xg 171 2 = some (.iadd) := by decide +kernel
theorem i171_3 : xIns xg 171 3 = some (.aload_n 0) := by decide +kernel
theorem i171_4 : xIns xg 171 4 = some (.getfield 23) := by decide +kernel
theorem i171_7 : xIns xg 171 7 = some (.iload_n 1) := by decide +kernel
theorem i171_8 : xIns xg 171 8 = some (.iconst 1) := by decide +kernel
theorem i171_9 : xIns xg 171 9 = some (.iadd) := by decide +kernel
theorem i171_10 : xIns xg 171 10 = some (.iaload) := by decide +kernel
theorem i171_11 : xIns xg 171 11 = some (.iadd) := by decide +kernel
theorem i171_12 : xIns xg 171 12 = some (.ireturn) := by decide +kernel
theorem m171 : (xMet xg 171).2.2 = (2, (some .int)) := by decide +kernel
def d_x8_other (N : Nat)  (s : St) (a0 : Int) : Option Rs :=
  if 0 ≤ (w32 (a0 + 1)) ∧ (w32 (a0 + 1)) < ((192 : Nat) : Int) then some (s, ((a0 + 1) + (s 81 (Int.toNat (w32 (a0 + 1)))))) else none
set_option maxHeartbeats 4000000 in
set_option maxRecDepth 100000 in
theorem c_x8_other {sc : xS} {d : Nat} {R : Rs} (N : Nat)  (hd : 0 ≤ d)   (s : St) (a0 : Int) : d_x8_other N  s a0 = some R → vT sc d 171 0 [(0, .ref 77), (1, vi a0)] [] s (fun r => r = qI R) := by
  unfold d_x8_other
  refine vLin 1 i171_0 rfl rfl ?_
  refine vK 2 i171_1 rfl ?_
  refine vIadd 3 i171_2 rfl ?_
  refine vLan 4 i171_3 rfl rfl ?_
  refine vGetC 7 i171_4 f171_23 sh_77 rfl rfl ?_
  refine vLin 8 i171_7 rfl rfl ?_
  refine vK 9 i171_8 rfl ?_
  refine vIadd 10 i171_9 rfl ?_
  refine vIal 11 rfl i171_10 sh_81 rfl ?_
  refine vIadd 12 i171_11 rfl ?_
  exact vRi i171_12 m171 rfl
theorem f188_17 : xFld xg 188 17 = some (7, 2) := by decide +kernel
theorem f188_26 : xFld xg 188 26 = some (7, 5) := by decide +kernel
theorem f188_36 : xFld xg 188 36 = some (7, 8) := by decide +kernel
theorem f188_30 : xFld xg 188 30 = some (7, 6) := by decide +kernel
theorem f188_64 : xFld xg 188 64 = some (7, 17) := by decide +kernel
theorem f188_351 : xFld xg 188 351 = some (7, 38) := by decide +kernel
theorem f188_20 : xFld xg 188 20 = some (7, 3) := by decide +kernel
theorem i188_341 : xIns xg 188 341 = some (.invokevirtual 369) := by decide +kernel
theorem i188_344 : xIns xg 188 344 = some (.goto 5) := by decide +kernel
theorem i188_349 : xIns xg 188 349 = some (.ireturn) := by decide +kernel
theorem m188 : (xMet xg 188).2.2 = (8, (some .int)) := by decide +kernel
theorem i188_306 : xIns xg 188 306 = some (.istore 5) := by decide +kernel
theorem i188_308 : xIns xg 188 308 = some (.iload 5) := by decide +kernel
theorem i188_310 : xIns xg 188 310 = some (.iconst 1) := by decide +kernel
theorem i188_311 : xIns xg 188 311 = some (.if_icmp .ne 36) := by decide +kernel
theorem i188_347 : xIns xg 188 347 = some (.iload 5) := by decide +kernel
theorem i188_314 : xIns xg 188 314 = some (.aload_n 0) := by decide +kernel
theorem i188_315 : xIns xg 188 315 = some (.aload_n 0) := by decide +kernel
theorem i188_316 : xIns xg 188 316 = some (.getfield 20) := by decide +kernel
theorem i188_319 : xIns xg 188 319 = some (.iload_n 1) := by decide +kernel
theorem i188_320 : xIns xg 188 320 = some (.iaload) := by decide +kernel
theorem i188_321 : xIns xg 188 321 = some (.lload 6) := by decide +kernel
theorem i188_323 : xIns xg 188 323 = some (.iload_n 3) := by decide +kernel
theorem i188_324 : xIns xg 188 324 = some (.iconst 3) := by decide +kernel
theorem i188_325 : xIns xg 188 325 = some (.if_icmp .ne 12) := by decide +kernel
theorem i188_337 : xIns xg 188 337 = some (.aload_n 0) := by decide +kernel
theorem i188_338 : xIns xg 188 338 = some (.getfield 351) := by decide +kernel
theorem i188_328 : xIns xg 188 328 = some (.aload_n 0) := by decide +kernel
theorem i188_329 : xIns xg 188 329 = some (.getfield 26) := by decide +kernel
theorem i188_332 : xIns xg 188 332 = some (.iload_n 1) := by decide +kernel
theorem i188_333 : xIns xg 188 333 = some (.laload) := by decide +kernel
theorem i188_334 : xIns xg 188 334 = some (.goto 7) := by decide +kernel
theorem i188_302 : xIns xg 188 302 = some (.iload_n 2) := by decide +kernel
theorem i188_303 : xIns xg 188 303 = some (.invokevirtual 348) := by decide +kernel
theorem i188_269 : xIns xg 188 269 = some (.aload_n 0) := by decide +kernel
theorem i188_270 : xIns xg 188 270 = some (.getfield 351) := by decide +kernel
theorem i188_273 : xIns xg 188 273 = some (.lstore 6) := by decide +kernel
theorem i188_275 : xIns xg 188 275 = some (.iload_n 3) := by decide +kernel
theorem i188_276 : xIns xg 188 276 = some (.iconst 3) := by decide +kernel
theorem i188_277 : xIns xg 188 277 = some (.if_icmp .ne 7) := by decide +kernel
theorem i188_284 : xIns xg 188 284 = some (.aload_n 0) := by decide +kernel
theorem i188_285 : xIns xg 188 285 = some (.iload_n 3) := by decide +kernel
theorem i188_286 : xIns xg 188 286 = some (.bipush 6) := by decide +kernel
theorem i188_288 : xIns xg 188 288 = some (.if_icmp .ne 11) := by decide +kernel
theorem i188_299 : xIns xg 188 299 = some (.iload_n 1) := by decide +kernel
theorem i188_300 : xIns xg 188 300 = some (.iconst 1) := by decide +kernel
theorem i188_301 : xIns xg 188 301 = some (.iadd) := by decide +kernel
theorem i188_291 : xIns xg 188 291 = some (.aload_n 0) := by decide +kernel
theorem i188_292 : xIns xg 188 292 = some (.iload_n 1) := by decide +kernel
theorem i188_293 : xIns xg 188 293 = some (.invokevirtual 345) := by decide +kernel
theorem i188_296 : xIns xg 188 296 = some (.goto 6) := by decide +kernel
theorem i188_280 : xIns xg 188 280 = some (.iconst 1) := by decide +kernel
theorem i188_281 : xIns xg 188 281 = some (.goto 25) := by decide +kernel
theorem i188_242 : xIns xg 188 242 = some (.istore 5) := by decide +kernel
theorem i188_244 : xIns xg 188 244 = some (.iload 5) := by decide +kernel
theorem i188_246 : xIns xg 188 246 = some (.iconst 1) := by decide +kernel
theorem i188_247 : xIns xg 188 247 = some (.if_icmp .ne 19) := by decide +kernel
theorem i188_266 : xIns xg 188 266 = some (.iload 5) := by decide +kernel
theorem i188_268 : xIns xg 188 268 = some (.ireturn) := by decide +kernel
theorem i188_250 : xIns xg 188 250 = some (.iload_n 3) := by decide +kernel
theorem i188_251 : xIns xg 188 251 = some (.iconst 3) := by decide +kernel
theorem i188_252 : xIns xg 188 252 = some (.if_icmp .eq 17) := by decide +kernel
theorem i188_255 : xIns xg 188 255 = some (.iload_n 3) := by decide +kernel
theorem i188_256 : xIns xg 188 256 = some (.bipush 6) := by decide +kernel
theorem i188_258 : xIns xg 188 258 = some (.if_icmp .eq 11) := by decide +kernel
theorem i188_261 : xIns xg 188 261 = some (.iload 4) := by decide +kernel
theorem i188_263 : xIns xg 188 263 = some (.ifCond .ne 6) := by decide +kernel
theorem i188_239 : xIns xg 188 239 = some (.invokevirtual 348) := by decide +kernel
theorem i188_186 : xIns xg 188 186 = some (.istore 4) := by decide +kernel
theorem i188_188 : xIns xg 188 188 = some (.iload 4) := by decide +kernel
theorem i188_190 : xIns xg 188 190 = some (.ifCond .eq 14) := by decide +kernel
theorem i188_204 : xIns xg 188 204 = some (.aload_n 0) := by decide +kernel
theorem i188_205 : xIns xg 188 205 = some (.iload_n 1) := by decide +kernel
theorem i188_206 : xIns xg 188 206 = some (.iconst 1) := by decide +kernel
theorem i188_207 : xIns xg 188 207 = some (.iadd) := by decide +kernel
theorem i188_208 : xIns xg 188 208 = some (.iload_n 3) := by decide +kernel
theorem i188_209 : xIns xg 188 209 = some (.bipush 9) := by decide +kernel
theorem i188_211 : xIns xg 188 211 = some (.if_icmp .ne 15) := by decide +kernel
theorem i188_226 : xIns xg 188 226 = some (.iload_n 3) := by decide +kernel
theorem i188_227 : xIns xg 188 227 = some (.bipush 12) := by decide +kernel
theorem i188_229 : xIns xg 188 229 = some (.if_icmp .ne 9) := by decide +kernel
theorem i188_238 : xIns xg 188 238 = some (.iload_n 2) := by decide +kernel
theorem i188_232 : xIns xg 188 232 = some (.iload_n 2) := by decide +kernel
theorem i188_233 : xIns xg 188 233 = some (.iconst 1) := by decide +kernel
theorem i188_234 : xIns xg 188 234 = some (.isub) := by decide +kernel
theorem i188_235 : xIns xg 188 235 = some (.goto 4) := by decide +kernel
theorem i188_214 : xIns xg 188 214 = some (.iload_n 2) := by decide +kernel
theorem i188_215 : xIns xg 188 215 = some (.aload_n 0) := by decide +kernel
theorem i188_216 : xIns xg 188 216 = some (.getfield 26) := by decide +kernel
theorem i188_219 : xIns xg 188 219 = some (.iload_n 1) := by decide +kernel
theorem i188_220 : xIns xg 188 220 = some (.laload) := by decide +kernel
theorem i188_221 : xIns xg 188 221 = some (.l2i) := by decide +kernel
theorem i188_222 : xIns xg 188 222 = some (.iadd) := by decide +kernel
theorem i188_223 : xIns xg 188 223 = some (.goto 16) := by decide +kernel
theorem i188_193 : xIns xg 188 193 = some (.aload_n 0) := by decide +kernel
theorem i188_194 : xIns xg 188 194 = some (.iload_n 1) := by decide +kernel
theorem i188_195 : xIns xg 188 195 = some (.iload_n 2) := by decide +kernel
theorem i188_196 : xIns xg 188 196 = some (.iconst 1) := by decide +kernel
theorem i188_197 : xIns xg 188 197 = some (.isub) := by decide +kernel
theorem i188_198 : xIns xg 188 198 = some (.invokevirtual 348) := by decide +kernel
theorem i188_201 : xIns xg 188 201 = some (.goto 41) := by decide +kernel
theorem i188_185 : xIns xg 188 185 = some (.iconst 0) := by decide +kernel
theorem i188_163 : xIns xg 188 163 = some (.iload 4) := by decide +kernel
theorem i188_165 : xIns xg 188 165 = some (.iconst 2) := by decide +kernel
theorem i188_166 : xIns xg 188 166 = some (.idiv) := by decide +kernel
theorem i188_167 : xIns xg 188 167 = some (.invokevirtual 348) := by decide +kernel
theorem i188_170 : xIns xg 188 170 = some (.ireturn) := by decide +kernel
theorem i188_106 : xIns xg 188 106 = some (.aload_n 0) := by decide +kernel
theorem i188_107 : xIns xg 188 107 = some (.iload_n 1) := by decide +kernel
theorem i188_108 : xIns xg 188 108 = some (.iconst 1) := by decide +kernel
theorem i188_109 : xIns xg 188 109 = some (.iadd) := by decide +kernel
theorem i188_110 : xIns xg 188 110 = some (.aload_n 0) := by decide +kernel
theorem i188_111 : xIns xg 188 111 = some (.getfield 64) := by decide +kernel
theorem i188_114 : xIns xg 188 114 = some (.bipush 64) := by decide +kernel
theorem i188_116 : xIns xg 188 116 = some (.iload_n 1) := by decide +kernel
theorem i188_117 : xIns xg 188 117 = some (.imul) := by decide +kernel
theorem i188_118 : xIns xg 188 118 = some (.iload_n 2) := by decide +kernel
theorem i188_119 : xIns xg 188 119 = some (.iadd) := by decide +kernel
theorem i188_120 : xIns xg 188 120 = some (.iaload) := by decide +kernel
theorem i188_121 : xIns xg 188 121 = some (.invokevirtual 348) := by decide +kernel
theorem i188_124 : xIns xg 188 124 = some (.ireturn) := by decide +kernel
theorem i188_82 : xIns xg 188 82 = some (.iload_n 3) := by decide +kernel
theorem i188_83 : xIns xg 188 83 = some (.bipush 13) := by decide +kernel
theorem i188_85 : xIns xg 188 85 = some (.if_icmp .ne 10) := by decide +kernel
theorem i188_95 : xIns xg 188 95 = some (.iload_n 3) := by decide +kernel
theorem i188_96 : xIns xg 188 96 = some (.iconst 4) := by decide +kernel
theorem i188_97 : xIns xg 188 97 = some (.if_icmp .eq 9) := by decide +kernel
theorem i188_100 : xIns xg 188 100 = some (.iload_n 3) := by decide +kernel
theorem i188_101 : xIns xg 188 101 = some (.bipush 11) := by decide +kernel
theorem i188_103 : xIns xg 188 103 = some (.if_icmp .ne 22) := by decide +kernel
theorem i188_125 : xIns xg 188 125 = some (.iload_n 3) := by decide +kernel
theorem i188_126 : xIns xg 188 126 = some (.bipush 7) := by decide +kernel
theorem i188_128 : xIns xg 188 128 = some (.if_icmp .ne 43) := by decide +kernel
theorem i188_171 : xIns xg 188 171 = some (.iload_n 3) := by decide +kernel
theorem i188_172 : xIns xg 188 172 = some (.bipush 10) := by decide +kernel
theorem i188_174 : xIns xg 188 174 = some (.if_icmp .ne 11) := by decide +kernel
theorem i188_177 : xIns xg 188 177 = some (.iload_n 2) := by decide +kernel
theorem i188_178 : xIns xg 188 178 = some (.ifCond .le 7) := by decide +kernel
theorem i188_181 : xIns xg 188 181 = some (.iconst 1) := by decide +kernel
theorem i188_182 : xIns xg 188 182 = some (.goto 4) := by decide +kernel
theorem i188_131 : xIns xg 188 131 = some (.aload_n 0) := by decide +kernel
theorem i188_132 : xIns xg 188 132 = some (.getfield 64) := by decide +kernel
theorem i188_135 : xIns xg 188 135 = some (.bipush 64) := by decide +kernel
theorem i188_137 : xIns xg 188 137 = some (.iload_n 1) := by decide +kernel
theorem i188_138 : xIns xg 188 138 = some (.imul) := by decide +kernel
theorem i188_139 : xIns xg 188 139 = some (.iload_n 2) := by decide +kernel
theorem i188_140 : xIns xg 188 140 = some (.iadd) := by decide +kernel
theorem i188_141 : xIns xg 188 141 = some (.iaload) := by decide +kernel
theorem i188_142 : xIns xg 188 142 = some (.istore 4) := by decide +kernel
theorem i188_144 : xIns xg 188 144 = some (.aload_n 0) := by decide +kernel
theorem i188_145 : xIns xg 188 145 = some (.iload 4) := by decide +kernel
theorem i188_147 : xIns xg 188 147 = some (.iconst 2) := by decide +kernel
theorem i188_148 : xIns xg 188 148 = some (.irem) := by decide +kernel
theorem i188_149 : xIns xg 188 149 = some (.ifCond .ne 9) := by decide +kernel
theorem i188_158 : xIns xg 188 158 = some (.aload_n 0) := by decide +kernel
theorem i188_159 : xIns xg 188 159 = some (.iload_n 1) := by decide +kernel
theorem i188_160 : xIns xg 188 160 = some (.invokevirtual 345) := by decide +kernel
theorem i188_152 : xIns xg 188 152 = some (.iload_n 1) := by decide +kernel
theorem i188_153 : xIns xg 188 153 = some (.iconst 1) := by decide +kernel
theorem i188_154 : xIns xg 188 154 = some (.iadd) := by decide +kernel
theorem i188_155 : xIns xg 188 155 = some (.goto 8) := by decide +kernel
theorem i188_88 : xIns xg 188 88 = some (.aload_n 0) := by decide +kernel
theorem i188_89 : xIns xg 188 89 = some (.iload_n 1) := by decide +kernel
theorem i188_90 : xIns xg 188 90 = some (.iload_n 2) := by decide +kernel
theorem i188_91 : xIns xg 188 91 = some (.invokevirtual 366) := by decide +kernel
theorem i188_94 : xIns xg 188 94 = some (.ireturn) := by decide +kernel
theorem i188_77 : xIns xg 188 77 = some (.putfield 351) := by decide +kernel
theorem p188_351 : xPut xg 188 351 = some (7, 38, .long) := by decide +kernel
theorem i188_80 : xIns xg 188 80 = some (.iconst 1) := by decide +kernel
theorem i188_81 : xIns xg 188 81 = some (.ireturn) := by decide +kernel
theorem i188_27 : xIns xg 188 27 = some (.aload_n 0) := by decide +kernel
theorem i188_28 : xIns xg 188 28 = some (.iload_n 3) := by decide +kernel
theorem i188_29 : xIns xg 188 29 = some (.iconst 1) := by decide +kernel
theorem i188_30 : xIns xg 188 30 = some (.if_icmp .ne 22) := by decide +kernel
theorem i188_52 : xIns xg 188 52 = some (.iload_n 3) := by decide +kernel
theorem i188_53 : xIns xg 188 53 = some (.iconst 2) := by decide +kernel
theorem i188_54 : xIns xg 188 54 = some (.if_icmp .ne 17) := by decide +kernel
theorem i188_71 : xIns xg 188 71 = some (.aload_n 0) := by decide +kernel
theorem i188_72 : xIns xg 188 72 = some (.getfield 26) := by decide +kernel
theorem i188_75 : xIns xg 188 75 = some (.iload_n 1) := by decide +kernel
theorem i188_76 : xIns xg 188 76 = some (.laload) := by decide +kernel
theorem i188_57 : xIns xg 188 57 = some (.aload_n 0) := by decide +kernel
theorem i188_58 : xIns xg 188 58 = some (.getfield 36) := by decide +kernel
theorem i188_61 : xIns xg 188 61 = some (.bipush 8) := by decide +kernel
theorem i188_63 : xIns xg 188 63 = some (.iload_n 1) := by decide +kernel
theorem i188_64 : xIns xg 188 64 = some (.imul) := by decide +kernel
theorem i188_65 : xIns xg 188 65 = some (.iload_n 2) := by decide +kernel
theorem i188_66 : xIns xg 188 66 = some (.iadd) := by decide +kernel
theorem i188_67 : xIns xg 188 67 = some (.laload) := by decide +kernel
theorem i188_68 : xIns xg 188 68 = some (.goto 9) := by decide +kernel
theorem i188_33 : xIns xg 188 33 = some (.aload_n 0) := by decide +kernel
theorem i188_34 : xIns xg 188 34 = some (.getfield 26) := by decide +kernel
theorem i188_37 : xIns xg 188 37 = some (.iload_n 1) := by decide +kernel
theorem i188_38 : xIns xg 188 38 = some (.laload) := by decide +kernel
theorem i188_39 : xIns xg 188 39 = some (.iload_n 2) := by decide +kernel
theorem i188_40 : xIns xg 188 40 = some (.i2l) := by decide +kernel
theorem i188_41 : xIns xg 188 41 = some (.aload_n 0) := by decide +kernel
theorem i188_42 : xIns xg 188 42 = some (.getfield 30) := by decide +kernel
theorem i188_45 : xIns xg 188 45 = some (.iload_n 1) := by decide +kernel
theorem i188_46 : xIns xg 188 46 = some (.laload) := by decide +kernel
theorem i188_47 : xIns xg 188 47 = some (.lmul) := by decide +kernel
theorem i188_48 : xIns xg 188 48 = some (.ladd) := by decide +kernel
theorem i188_49 : xIns xg 188 49 = some (.goto 28) := by decide +kernel
theorem i188_0 : xIns xg 188 0 = some (.aload_n 0) := by decide +kernel
theorem i188_1 : xIns xg 188 1 = some (.getfield 17) := by decide +kernel
theorem i188_4 : xIns xg 188 4 = some (.iload_n 1) := by decide +kernel
theorem i188_5 : xIns xg 188 5 = some (.iaload) := by decide +kernel
theorem i188_6 : xIns xg 188 6 = some (.istore_n 3) := by decide +kernel
theorem i188_7 : xIns xg 188 7 = some (.iload_n 3) := by decide +kernel
theorem i188_8 : xIns xg 188 8 = some (.iconst 1) := by decide +kernel
theorem i188_9 : xIns xg 188 9 = some (.if_icmp .eq 18) := by decide +kernel
theorem i188_12 : xIns xg 188 12 = some (.iload_n 3) := by decide +kernel
theorem i188_13 : xIns xg 188 13 = some (.iconst 2) := by decide +kernel
theorem i188_14 : xIns xg 188 14 = some (.if_icmp .eq 13) := by decide +kernel
theorem i188_17 : xIns xg 188 17 = some (.iload_n 3) := by decide +kernel
theorem i188_18 : xIns xg 188 18 = some (.bipush 12) := by decide +kernel
theorem i188_20 : xIns xg 188 20 = some (.if_icmp .ne 62) := by decide +kernel
theorem i188_23 : xIns xg 188 23 = some (.iload_n 2) := by decide +kernel
theorem i188_24 : xIns xg 188 24 = some (.ifCond .ne 58) := by decide +kernel
def d_x8_tellsHead_341 (N : Nat) (r_place : St → Int → Int → Option Rs) (r_headAsked : St → Int → Int → Option Rs)  (s : St) (z0 : Int) (z1 : Int) (z2 : Int) : Option Rs :=
  bI (d_x8_joined N  s z2 z1 z0) fun s1 v2 => some (s1, v2)
set_option maxHeartbeats 4000000 in
set_option maxRecDepth 100000 in
theorem c_x8_tellsHead_341 {sc : xS} {d : Nat} {R : Rs} (N : Nat) (r_place : St → Int → Int → Option Rs) (r_headAsked : St → Int → Int → Option Rs) (e : Nat) (hr_place : ∀ d, e ≤ d → ∀ (s : St) (a0 a1 : Int) (R : Rs), r_place s a0 a1 = some R → vT sc d 175 0 [(0, .ref 77), (1, vi a0), (2, vi a1)] [] s (fun r => r = qI R)) (hr_headAsked : ∀ d, e ≤ d → ∀ (s : St) (a0 a1 : Int) (R : Rs), r_headAsked s a0 a1 = some R → vT sc d 140 0 [(0, .ref 77), (1, vi a0), (2, vi a1)] [] s (fun r => r = qI R)) (hd : e + 2 ≤ d)   (s : St) (z0 : Int) (z1 : Int) (z2 : Int) : d_x8_tellsHead_341 N r_place r_headAsked  s z0 z1 z2 = some R → vT sc d 188 341 [] [vl z0, vl z1, vi z2, .ref 77] s (fun r => r = qI R) := by
  obtain ⟨d, rfl⟩ : ∃ d', d = d' + 1 := ⟨d - 1, by omega⟩
  unfold d_x8_tellsHead_341
  refine vCallI 344 [.ref 77, vi z2, vl z1, vl z0] [] [(0, .ref 77), (1, vi z2), (2, vl z1), (4, vl z0)] i188_341 rfl (xlk0 l188_369) (Or.inl rfl) m156 rfl rfl (Nat.le_of_ble_eq_true rfl) (Nat.le_of_ble_eq_true rfl) (Nat.le_of_ble_eq_true rfl) (xh0 sh_77 (by decide)) rfl rfl (fun R1 => c_x8_joined N   (by omega) s z2 z1 z0) (fun s1 v2 => ?_)
  refine vGo 349 i188_344 rfl ?_
  exact vRi i188_349 m188 rfl
def d_x8_tellsHead_306 (N : Nat) (r_place : St → Int → Int → Option Rs) (r_headAsked : St → Int → Int → Option Rs)  (s : St) (x1 : Int) (x3 : Int) (x6 : Int) (z0 : Int) : Option Rs :=
  (if (w32 z0) = 1 then if 0 ≤ (w32 x1) ∧ (w32 x1) < ((192 : Nat) : Int) then (if (w32 x3) = 3 then if 0 ≤ (w32 x1) ∧ (w32 x1) < ((192 : Nat) : Int) then d_x8_tellsHead_341 N r_place r_headAsked  s (s 82 (Int.toNat (w32 x1))) x6 (s 80 (Int.toNat (w32 x1))) else none else d_x8_tellsHead_341 N r_place r_headAsked  s (s 77 38) x6 (s 80 (Int.toNat (w32 x1)))) else none else some (s, z0))
set_option maxHeartbeats 4000000 in
set_option maxRecDepth 100000 in
theorem c_x8_tellsHead_306 {sc : xS} {d : Nat} {R : Rs} (N : Nat) (r_place : St → Int → Int → Option Rs) (r_headAsked : St → Int → Int → Option Rs) (e : Nat) (hr_place : ∀ d, e ≤ d → ∀ (s : St) (a0 a1 : Int) (R : Rs), r_place s a0 a1 = some R → vT sc d 175 0 [(0, .ref 77), (1, vi a0), (2, vi a1)] [] s (fun r => r = qI R)) (hr_headAsked : ∀ d, e ≤ d → ∀ (s : St) (a0 a1 : Int) (R : Rs), r_headAsked s a0 a1 = some R → vT sc d 140 0 [(0, .ref 77), (1, vi a0), (2, vi a1)] [] s (fun r => r = qI R)) (hd : e + 2 ≤ d)   (s : St) (x1 : Int) (x3 : Int) (x6 : Int) (z0 : Int) : d_x8_tellsHead_306 N r_place r_headAsked  s x1 x3 x6 z0 = some R → vT sc d 188 306 [(0, .ref 77), (1, vi x1), (3, vi x3), (6, vl x6)] [vi z0] s (fun r => r = qI R) := by
  obtain ⟨d, rfl⟩ : ∃ d', d = d' + 1 := ⟨d - 1, by omega⟩
  unfold d_x8_tellsHead_306
  refine vSi0 308 [(5, vi z0), (0, .ref 77), (1, vi x1), (3, vi x3), (6, vl x6)] i188_306 m188 (by decide) rfl rfl ?_
  refine vLi 310 i188_308 rfl rfl ?_
  refine vK 311 i188_310 rfl ?_
  refine vCne 347 314 rfl (show w32 1 = 1 from rfl) i188_311 rfl rfl ?_ ?_
  · refine vLi 349 i188_347 rfl rfl ?_
    exact vRi i188_349 m188 rfl
  · refine vLan 315 i188_314 rfl rfl ?_
    refine vLan 316 i188_315 rfl rfl ?_
    refine vGetC 319 i188_316 f188_20 sh_77 rfl rfl ?_
    refine vLin 320 i188_319 rfl rfl ?_
    refine vIal 321 rfl i188_320 sh_80 rfl ?_
    refine vLl 323 i188_321 rfl rfl ?_
    refine vLin 324 i188_323 rfl rfl ?_
    refine vK 325 i188_324 rfl ?_
    refine vCne 337 328 rfl (show w32 3 = 3 from rfl) i188_325 rfl rfl ?_ ?_
    · refine vLan 338 i188_337 rfl rfl ?_
      refine vGetL 341 i188_338 f188_351 sh_77 rfl rfl ?_
      exact fun hD => tLc [] (xNdk [] rfl (by decide)) (xNdk [5, 0, 1, 3, 6] rfl (by decide)) trivial (c_x8_tellsHead_341 N r_place r_headAsked e hr_place hr_headAsked hd  s (s 77 38) x6 (s 80 (Int.toNat (w32 x1))) hD)
    · refine vLan 329 i188_328 rfl rfl ?_
      refine vGetC 332 i188_329 f188_26 sh_77 rfl rfl ?_
      refine vLin 333 i188_332 rfl rfl ?_
      refine vLal 334 rfl i188_333 sh_82 rfl ?_
      refine vGo 341 i188_334 rfl ?_
      exact fun hD => tLc [] (xNdk [] rfl (by decide)) (xNdk [5, 0, 1, 3, 6] rfl (by decide)) trivial (c_x8_tellsHead_341 N r_place r_headAsked e hr_place hr_headAsked hd  s (s 82 (Int.toNat (w32 x1))) x6 (s 80 (Int.toNat (w32 x1))) hD)
def d_x8_tellsHead_302 (N : Nat) (r_place : St → Int → Int → Option Rs) (r_headAsked : St → Int → Int → Option Rs)  (s : St) (x1 : Int) (x2 : Int) (x3 : Int) (x6 : Int) (z0 : Int) : Option Rs :=
  bI (r_headAsked s z0 x2) fun s3 v4 => d_x8_tellsHead_306 N r_place r_headAsked  s3 x1 x3 x6 v4
set_option maxHeartbeats 4000000 in
set_option maxRecDepth 100000 in
theorem c_x8_tellsHead_302 {sc : xS} {d : Nat} {R : Rs} (N : Nat) (r_place : St → Int → Int → Option Rs) (r_headAsked : St → Int → Int → Option Rs) (e : Nat) (hr_place : ∀ d, e ≤ d → ∀ (s : St) (a0 a1 : Int) (R : Rs), r_place s a0 a1 = some R → vT sc d 175 0 [(0, .ref 77), (1, vi a0), (2, vi a1)] [] s (fun r => r = qI R)) (hr_headAsked : ∀ d, e ≤ d → ∀ (s : St) (a0 a1 : Int) (R : Rs), r_headAsked s a0 a1 = some R → vT sc d 140 0 [(0, .ref 77), (1, vi a0), (2, vi a1)] [] s (fun r => r = qI R)) (hd : e + 2 ≤ d)   (s : St) (x1 : Int) (x2 : Int) (x3 : Int) (x6 : Int) (z0 : Int) : d_x8_tellsHead_302 N r_place r_headAsked  s x1 x2 x3 x6 z0 = some R → vT sc d 188 302 [(0, .ref 77), (1, vi x1), (2, vi x2), (3, vi x3), (6, vl x6)] [vi z0, .ref 77] s (fun r => r = qI R) := by
  obtain ⟨d, rfl⟩ : ∃ d', d = d' + 1 := ⟨d - 1, by omega⟩
  unfold d_x8_tellsHead_302
  refine vLin 303 i188_302 rfl rfl ?_
  refine vCallI 306 [.ref 77, vi z0, vi x2] [] [(0, .ref 77), (1, vi z0), (2, vi x2)] i188_303 rfl (xlk0 l188_348) (Or.inl rfl) m140 rfl rfl (Nat.le_of_ble_eq_true rfl) (Nat.le_of_ble_eq_true rfl) (Nat.le_of_ble_eq_true rfl) (xh0 sh_77 (by decide)) rfl rfl (hr_headAsked d (by omega) s z0 x2) (fun s3 v4 => ?_)
  exact fun hD => tLc [(0, .ref 77), (1, vi x1), (3, vi x3), (6, vl x6)] (xNdk [0, 1, 3, 6] rfl (by decide)) (xNdk [0, 1, 2, 3, 6] rfl (by decide)) ⟨rfl, rfl, rfl, rfl, trivial⟩ (c_x8_tellsHead_306 N r_place r_headAsked e hr_place hr_headAsked hd  s3 x1 x3 x6 v4 hD)
def d_x8_tellsHead_269 (N : Nat) (r_place : St → Int → Int → Option Rs) (r_headAsked : St → Int → Int → Option Rs)  (s : St) (x1 : Int) (x2 : Int) (x3 : Int) : Option Rs :=
  bd (s 77 38) fun v5 => (if (w32 x3) = 3 then d_x8_tellsHead_306 N r_place r_headAsked  s x1 x3 v5 1 else (if (w32 x3) = 6 then bI (d_x8_other N  s x1) fun s6 v7 => d_x8_tellsHead_302 N r_place r_headAsked  s6 x1 x2 x3 v5 v7 else d_x8_tellsHead_302 N r_place r_headAsked  s x1 x2 x3 v5 (x1 + 1)))
set_option maxHeartbeats 4000000 in
set_option maxRecDepth 100000 in
theorem c_x8_tellsHead_269 {sc : xS} {d : Nat} {R : Rs} (N : Nat) (r_place : St → Int → Int → Option Rs) (r_headAsked : St → Int → Int → Option Rs) (e : Nat) (hr_place : ∀ d, e ≤ d → ∀ (s : St) (a0 a1 : Int) (R : Rs), r_place s a0 a1 = some R → vT sc d 175 0 [(0, .ref 77), (1, vi a0), (2, vi a1)] [] s (fun r => r = qI R)) (hr_headAsked : ∀ d, e ≤ d → ∀ (s : St) (a0 a1 : Int) (R : Rs), r_headAsked s a0 a1 = some R → vT sc d 140 0 [(0, .ref 77), (1, vi a0), (2, vi a1)] [] s (fun r => r = qI R)) (hd : e + 2 ≤ d)   (s : St) (x1 : Int) (x2 : Int) (x3 : Int) : d_x8_tellsHead_269 N r_place r_headAsked  s x1 x2 x3 = some R → vT sc d 188 269 [(0, .ref 77), (1, vi x1), (2, vi x2), (3, vi x3)] [] s (fun r => r = qI R) := by
  obtain ⟨d, rfl⟩ : ∃ d', d = d' + 1 := ⟨d - 1, by omega⟩
  unfold d_x8_tellsHead_269
  refine vLan 270 i188_269 rfl rfl ?_
  refine vGetL 273 i188_270 f188_351 sh_77 rfl rfl ?_
  refine vSl 275 (fun v5 => [(6, vl v5), (0, .ref 77), (1, vi x1), (2, vi x2), (3, vi x3)]) i188_273 m188 (by decide) (fun v5 => (rfl : xst2 [(0, .ref 77), (1, vi x1), (2, vi x2), (3, vi x3)] 6 (vl v5) = [(6, vl v5), (0, .ref 77), (1, vi x1), (2, vi x2), (3, vi x3)])) rfl (fun v5 => ?_)
  refine vLin 276 i188_275 rfl rfl ?_
  refine vK 277 i188_276 rfl ?_
  refine vCne 284 280 rfl (show w32 3 = 3 from rfl) i188_277 rfl rfl ?_ ?_
  · refine vLan 285 i188_284 rfl rfl ?_
    refine vLin 286 i188_285 rfl rfl ?_
    refine vKb 288 i188_286 (by decide) rfl ?_
    refine vCne 299 291 rfl (show w32 6 = 6 from rfl) i188_288 rfl rfl ?_ ?_
    · refine vLin 300 i188_299 rfl rfl ?_
      refine vK 301 i188_300 rfl ?_
      refine vIadd 302 i188_301 rfl ?_
      exact fun hD => tLc [(0, .ref 77), (1, vi x1), (2, vi x2), (3, vi x3), (6, vl v5)] (xNdk [0, 1, 2, 3, 6] rfl (by decide)) (xNdk [6, 0, 1, 2, 3] rfl (by decide)) ⟨rfl, rfl, rfl, rfl, rfl, trivial⟩ (c_x8_tellsHead_302 N r_place r_headAsked e hr_place hr_headAsked hd  s x1 x2 x3 v5 (x1 + 1) hD)
    · refine vLan 292 i188_291 rfl rfl ?_
      refine vLin 293 i188_292 rfl rfl ?_
      refine vCallI 296 [.ref 77, vi x1] [.ref 77] [(0, .ref 77), (1, vi x1)] i188_293 rfl (xlk0 l188_345) (Or.inl rfl) m171 rfl rfl (Nat.le_of_ble_eq_true rfl) (Nat.le_of_ble_eq_true rfl) (Nat.le_of_ble_eq_true rfl) (xh0 sh_77 (by decide)) rfl rfl (fun R1 => c_x8_other N   (by omega) s x1) (fun s6 v7 => ?_)
      refine vGo 302 i188_296 rfl ?_
      exact fun hD => tLc [(0, .ref 77), (1, vi x1), (2, vi x2), (3, vi x3), (6, vl v5)] (xNdk [0, 1, 2, 3, 6] rfl (by decide)) (xNdk [6, 0, 1, 2, 3] rfl (by decide)) ⟨rfl, rfl, rfl, rfl, rfl, trivial⟩ (c_x8_tellsHead_302 N r_place r_headAsked e hr_place hr_headAsked hd  s6 x1 x2 x3 v5 v7 hD)
  · refine vK 281 i188_280 rfl ?_
    refine vGo 306 i188_281 rfl ?_
    exact fun hD => tLc [(0, .ref 77), (1, vi x1), (3, vi x3), (6, vl v5)] (xNdk [0, 1, 3, 6] rfl (by decide)) (xNdk [6, 0, 1, 2, 3] rfl (by decide)) ⟨rfl, rfl, rfl, rfl, trivial⟩ (c_x8_tellsHead_306 N r_place r_headAsked e hr_place hr_headAsked hd  s x1 x3 v5 1 hD)
def d_x8_tellsHead_242 (N : Nat) (r_place : St → Int → Int → Option Rs) (r_headAsked : St → Int → Int → Option Rs)  (s : St) (x1 : Int) (x2 : Int) (x3 : Int) (x4 : Int) (z0 : Int) : Option Rs :=
  (if (w32 z0) = 1 then (if (w32 x3) = 3 then d_x8_tellsHead_269 N r_place r_headAsked  s x1 x2 x3 else (if (w32 x3) = 6 then d_x8_tellsHead_269 N r_place r_headAsked  s x1 x2 x3 else (if (w32 x4) = 0 then some (s, z0) else d_x8_tellsHead_269 N r_place r_headAsked  s x1 x2 x3))) else some (s, z0))
set_option maxHeartbeats 4000000 in
set_option maxRecDepth 100000 in
theorem c_x8_tellsHead_242 {sc : xS} {d : Nat} {R : Rs} (N : Nat) (r_place : St → Int → Int → Option Rs) (r_headAsked : St → Int → Int → Option Rs) (e : Nat) (hr_place : ∀ d, e ≤ d → ∀ (s : St) (a0 a1 : Int) (R : Rs), r_place s a0 a1 = some R → vT sc d 175 0 [(0, .ref 77), (1, vi a0), (2, vi a1)] [] s (fun r => r = qI R)) (hr_headAsked : ∀ d, e ≤ d → ∀ (s : St) (a0 a1 : Int) (R : Rs), r_headAsked s a0 a1 = some R → vT sc d 140 0 [(0, .ref 77), (1, vi a0), (2, vi a1)] [] s (fun r => r = qI R)) (hd : e + 2 ≤ d)   (s : St) (x1 : Int) (x2 : Int) (x3 : Int) (x4 : Int) (z0 : Int) : d_x8_tellsHead_242 N r_place r_headAsked  s x1 x2 x3 x4 z0 = some R → vT sc d 188 242 [(0, .ref 77), (1, vi x1), (2, vi x2), (3, vi x3), (4, vi x4)] [vi z0] s (fun r => r = qI R) := by
  obtain ⟨d, rfl⟩ : ∃ d', d = d' + 1 := ⟨d - 1, by omega⟩
  unfold d_x8_tellsHead_242
  refine vSi0 244 [(5, vi z0), (0, .ref 77), (1, vi x1), (2, vi x2), (3, vi x3), (4, vi x4)] i188_242 m188 (by decide) rfl rfl ?_
  refine vLi 246 i188_244 rfl rfl ?_
  refine vK 247 i188_246 rfl ?_
  refine vCne 266 250 rfl (show w32 1 = 1 from rfl) i188_247 rfl rfl ?_ ?_
  · refine vLi 268 i188_266 rfl rfl ?_
    exact vRi i188_268 m188 rfl
  · refine vLin 251 i188_250 rfl rfl ?_
    refine vK 252 i188_251 rfl ?_
    refine vCeq 269 255 rfl (show w32 3 = 3 from rfl) i188_252 rfl rfl ?_ ?_
    · exact fun hD => tLc [(0, .ref 77), (1, vi x1), (2, vi x2), (3, vi x3)] (xNdk [0, 1, 2, 3] rfl (by decide)) (xNdk [5, 0, 1, 2, 3, 4] rfl (by decide)) ⟨rfl, rfl, rfl, rfl, trivial⟩ (c_x8_tellsHead_269 N r_place r_headAsked e hr_place hr_headAsked hd  s x1 x2 x3 hD)
    · refine vLin 256 i188_255 rfl rfl ?_
      refine vKb 258 i188_256 (by decide) rfl ?_
      refine vCeq 269 261 rfl (show w32 6 = 6 from rfl) i188_258 rfl rfl ?_ ?_
      · exact fun hD => tLc [(0, .ref 77), (1, vi x1), (2, vi x2), (3, vi x3)] (xNdk [0, 1, 2, 3] rfl (by decide)) (xNdk [5, 0, 1, 2, 3, 4] rfl (by decide)) ⟨rfl, rfl, rfl, rfl, trivial⟩ (c_x8_tellsHead_269 N r_place r_headAsked e hr_place hr_headAsked hd  s x1 x2 x3 hD)
      · refine vLi 263 i188_261 rfl rfl ?_
        refine vZne 269 266 rfl i188_263 rfl rfl ?_ ?_
        · exact fun hD => tLc [(0, .ref 77), (1, vi x1), (2, vi x2), (3, vi x3)] (xNdk [0, 1, 2, 3] rfl (by decide)) (xNdk [5, 0, 1, 2, 3, 4] rfl (by decide)) ⟨rfl, rfl, rfl, rfl, trivial⟩ (c_x8_tellsHead_269 N r_place r_headAsked e hr_place hr_headAsked hd  s x1 x2 x3 hD)
        · refine vLi 268 i188_266 rfl rfl ?_
          exact vRi i188_268 m188 rfl
def d_x8_tellsHead_239 (N : Nat) (r_place : St → Int → Int → Option Rs) (r_headAsked : St → Int → Int → Option Rs)  (s : St) (x1 : Int) (x2 : Int) (x3 : Int) (x4 : Int) (z0 : Int) (z1 : Int) : Option Rs :=
  bI (r_headAsked s z1 z0) fun s8 v9 => d_x8_tellsHead_242 N r_place r_headAsked  s8 x1 x2 x3 x4 v9
set_option maxHeartbeats 4000000 in
set_option maxRecDepth 100000 in
theorem c_x8_tellsHead_239 {sc : xS} {d : Nat} {R : Rs} (N : Nat) (r_place : St → Int → Int → Option Rs) (r_headAsked : St → Int → Int → Option Rs) (e : Nat) (hr_place : ∀ d, e ≤ d → ∀ (s : St) (a0 a1 : Int) (R : Rs), r_place s a0 a1 = some R → vT sc d 175 0 [(0, .ref 77), (1, vi a0), (2, vi a1)] [] s (fun r => r = qI R)) (hr_headAsked : ∀ d, e ≤ d → ∀ (s : St) (a0 a1 : Int) (R : Rs), r_headAsked s a0 a1 = some R → vT sc d 140 0 [(0, .ref 77), (1, vi a0), (2, vi a1)] [] s (fun r => r = qI R)) (hd : e + 2 ≤ d)   (s : St) (x1 : Int) (x2 : Int) (x3 : Int) (x4 : Int) (z0 : Int) (z1 : Int) : d_x8_tellsHead_239 N r_place r_headAsked  s x1 x2 x3 x4 z0 z1 = some R → vT sc d 188 239 [(0, .ref 77), (1, vi x1), (2, vi x2), (3, vi x3), (4, vi x4)] [vi z0, vi z1, .ref 77] s (fun r => r = qI R) := by
  obtain ⟨d, rfl⟩ : ∃ d', d = d' + 1 := ⟨d - 1, by omega⟩
  unfold d_x8_tellsHead_239
  refine vCallI 242 [.ref 77, vi z1, vi z0] [] [(0, .ref 77), (1, vi z1), (2, vi z0)] i188_239 rfl (xlk0 l188_348) (Or.inl rfl) m140 rfl rfl (Nat.le_of_ble_eq_true rfl) (Nat.le_of_ble_eq_true rfl) (Nat.le_of_ble_eq_true rfl) (xh0 sh_77 (by decide)) rfl rfl (hr_headAsked d (by omega) s z1 z0) (fun s8 v9 => ?_)
  exact fun hD => c_x8_tellsHead_242 N r_place r_headAsked e hr_place hr_headAsked hd  s8 x1 x2 x3 x4 v9 hD
def d_x8_tellsHead_186 (N : Nat) (r_place : St → Int → Int → Option Rs) (r_headAsked : St → Int → Int → Option Rs)  (s : St) (x1 : Int) (x2 : Int) (x3 : Int) (z0 : Int) : Option Rs :=
  (if (w32 z0) = 0 then (if (w32 x3) = 9 then if 0 ≤ (w32 x1) ∧ (w32 x1) < ((192 : Nat) : Int) then d_x8_tellsHead_239 N r_place r_headAsked  s x1 x2 x3 z0 (x2 + (s 82 (Int.toNat (w32 x1)))) (x1 + 1) else none else (if (w32 x3) = 12 then d_x8_tellsHead_239 N r_place r_headAsked  s x1 x2 x3 z0 (x2 - 1) (x1 + 1) else d_x8_tellsHead_239 N r_place r_headAsked  s x1 x2 x3 z0 x2 (x1 + 1))) else bI (r_headAsked s x1 (x2 - 1)) fun s10 v11 => d_x8_tellsHead_242 N r_place r_headAsked  s10 x1 x2 x3 z0 v11)
set_option maxHeartbeats 4000000 in
set_option maxRecDepth 100000 in
theorem c_x8_tellsHead_186 {sc : xS} {d : Nat} {R : Rs} (N : Nat) (r_place : St → Int → Int → Option Rs) (r_headAsked : St → Int → Int → Option Rs) (e : Nat) (hr_place : ∀ d, e ≤ d → ∀ (s : St) (a0 a1 : Int) (R : Rs), r_place s a0 a1 = some R → vT sc d 175 0 [(0, .ref 77), (1, vi a0), (2, vi a1)] [] s (fun r => r = qI R)) (hr_headAsked : ∀ d, e ≤ d → ∀ (s : St) (a0 a1 : Int) (R : Rs), r_headAsked s a0 a1 = some R → vT sc d 140 0 [(0, .ref 77), (1, vi a0), (2, vi a1)] [] s (fun r => r = qI R)) (hd : e + 2 ≤ d)   (s : St) (x1 : Int) (x2 : Int) (x3 : Int) (z0 : Int) : d_x8_tellsHead_186 N r_place r_headAsked  s x1 x2 x3 z0 = some R → vT sc d 188 186 [(0, .ref 77), (1, vi x1), (2, vi x2), (3, vi x3)] [vi z0] s (fun r => r = qI R) := by
  obtain ⟨d, rfl⟩ : ∃ d', d = d' + 1 := ⟨d - 1, by omega⟩
  unfold d_x8_tellsHead_186
  refine vSi0 188 [(4, vi z0), (0, .ref 77), (1, vi x1), (2, vi x2), (3, vi x3)] i188_186 m188 (by decide) rfl rfl ?_
  refine vLi 190 i188_188 rfl rfl ?_
  refine vZeq 204 193 rfl i188_190 rfl rfl ?_ ?_
  · refine vLan 205 i188_204 rfl rfl ?_
    refine vLin 206 i188_205 rfl rfl ?_
    refine vK 207 i188_206 rfl ?_
    refine vIadd 208 i188_207 rfl ?_
    refine vLin 209 i188_208 rfl rfl ?_
    refine vKb 211 i188_209 (by decide) rfl ?_
    refine vCne 226 214 rfl (show w32 9 = 9 from rfl) i188_211 rfl rfl ?_ ?_
    · refine vLin 227 i188_226 rfl rfl ?_
      refine vKb 229 i188_227 (by decide) rfl ?_
      refine vCne 238 232 rfl (show w32 12 = 12 from rfl) i188_229 rfl rfl ?_ ?_
      · refine vLin 239 i188_238 rfl rfl ?_
        exact fun hD => tLc [(0, .ref 77), (1, vi x1), (2, vi x2), (3, vi x3), (4, vi z0)] (xNdk [0, 1, 2, 3, 4] rfl (by decide)) (xNdk [4, 0, 1, 2, 3] rfl (by decide)) ⟨rfl, rfl, rfl, rfl, rfl, trivial⟩ (c_x8_tellsHead_239 N r_place r_headAsked e hr_place hr_headAsked hd  s x1 x2 x3 z0 x2 (x1 + 1) hD)
      · refine vLin 233 i188_232 rfl rfl ?_
        refine vK 234 i188_233 rfl ?_
        refine vIsub 235 i188_234 rfl ?_
        refine vGo 239 i188_235 rfl ?_
        exact fun hD => tLc [(0, .ref 77), (1, vi x1), (2, vi x2), (3, vi x3), (4, vi z0)] (xNdk [0, 1, 2, 3, 4] rfl (by decide)) (xNdk [4, 0, 1, 2, 3] rfl (by decide)) ⟨rfl, rfl, rfl, rfl, rfl, trivial⟩ (c_x8_tellsHead_239 N r_place r_headAsked e hr_place hr_headAsked hd  s x1 x2 x3 z0 (x2 - 1) (x1 + 1) hD)
    · refine vLin 215 i188_214 rfl rfl ?_
      refine vLan 216 i188_215 rfl rfl ?_
      refine vGetC 219 i188_216 f188_26 sh_77 rfl rfl ?_
      refine vLin 220 i188_219 rfl rfl ?_
      refine vLal 221 rfl i188_220 sh_82 rfl ?_
      refine vL2i 222 i188_221 rfl ?_
      refine vIadd 223 i188_222 rfl ?_
      refine vGo 239 i188_223 rfl ?_
      exact fun hD => tLc [(0, .ref 77), (1, vi x1), (2, vi x2), (3, vi x3), (4, vi z0)] (xNdk [0, 1, 2, 3, 4] rfl (by decide)) (xNdk [4, 0, 1, 2, 3] rfl (by decide)) ⟨rfl, rfl, rfl, rfl, rfl, trivial⟩ (c_x8_tellsHead_239 N r_place r_headAsked e hr_place hr_headAsked hd  s x1 x2 x3 z0 (x2 + (s 82 (Int.toNat (w32 x1)))) (x1 + 1) hD)
  · refine vLan 194 i188_193 rfl rfl ?_
    refine vLin 195 i188_194 rfl rfl ?_
    refine vLin 196 i188_195 rfl rfl ?_
    refine vK 197 i188_196 rfl ?_
    refine vIsub 198 i188_197 rfl ?_
    refine vCallI 201 [.ref 77, vi x1, vi (x2 - 1)] [] [(0, .ref 77), (1, vi x1), (2, vi (x2 - 1))] i188_198 rfl (xlk0 l188_348) (Or.inl rfl) m140 rfl rfl (Nat.le_of_ble_eq_true rfl) (Nat.le_of_ble_eq_true rfl) (Nat.le_of_ble_eq_true rfl) (xh0 sh_77 (by decide)) rfl rfl (hr_headAsked d (by omega) s x1 (x2 - 1)) (fun s10 v11 => ?_)
    refine vGo 242 i188_201 rfl ?_
    exact fun hD => tLc [(0, .ref 77), (1, vi x1), (2, vi x2), (3, vi x3), (4, vi z0)] (xNdk [0, 1, 2, 3, 4] rfl (by decide)) (xNdk [4, 0, 1, 2, 3] rfl (by decide)) ⟨rfl, rfl, rfl, rfl, rfl, trivial⟩ (c_x8_tellsHead_242 N r_place r_headAsked e hr_place hr_headAsked hd  s10 x1 x2 x3 z0 v11 hD)
def d_x8_tellsHead_185 (N : Nat) (r_place : St → Int → Int → Option Rs) (r_headAsked : St → Int → Int → Option Rs)  (s : St) (x1 : Int) (x2 : Int) (x3 : Int) : Option Rs :=
  d_x8_tellsHead_186 N r_place r_headAsked  s x1 x2 x3 0
set_option maxHeartbeats 4000000 in
set_option maxRecDepth 100000 in
theorem c_x8_tellsHead_185 {sc : xS} {d : Nat} {R : Rs} (N : Nat) (r_place : St → Int → Int → Option Rs) (r_headAsked : St → Int → Int → Option Rs) (e : Nat) (hr_place : ∀ d, e ≤ d → ∀ (s : St) (a0 a1 : Int) (R : Rs), r_place s a0 a1 = some R → vT sc d 175 0 [(0, .ref 77), (1, vi a0), (2, vi a1)] [] s (fun r => r = qI R)) (hr_headAsked : ∀ d, e ≤ d → ∀ (s : St) (a0 a1 : Int) (R : Rs), r_headAsked s a0 a1 = some R → vT sc d 140 0 [(0, .ref 77), (1, vi a0), (2, vi a1)] [] s (fun r => r = qI R)) (hd : e + 2 ≤ d)   (s : St) (x1 : Int) (x2 : Int) (x3 : Int) : d_x8_tellsHead_185 N r_place r_headAsked  s x1 x2 x3 = some R → vT sc d 188 185 [(0, .ref 77), (1, vi x1), (2, vi x2), (3, vi x3)] [] s (fun r => r = qI R) := by
  obtain ⟨d, rfl⟩ : ∃ d', d = d' + 1 := ⟨d - 1, by omega⟩
  unfold d_x8_tellsHead_185
  refine vK 186 i188_185 rfl ?_
  exact fun hD => c_x8_tellsHead_186 N r_place r_headAsked e hr_place hr_headAsked hd  s x1 x2 x3 0 hD
def d_x8_tellsHead_163 (N : Nat) (r_place : St → Int → Int → Option Rs) (r_headAsked : St → Int → Int → Option Rs)  (s : St) (x4 : Int) (z0 : Int) : Option Rs :=
  if 2 = 0 then none else bI (r_headAsked s z0 (Int.tdiv (w32 x4) 2)) fun s12 v13 => some (s12, v13)
set_option maxHeartbeats 4000000 in
set_option maxRecDepth 100000 in
theorem c_x8_tellsHead_163 {sc : xS} {d : Nat} {R : Rs} (N : Nat) (r_place : St → Int → Int → Option Rs) (r_headAsked : St → Int → Int → Option Rs) (e : Nat) (hr_place : ∀ d, e ≤ d → ∀ (s : St) (a0 a1 : Int) (R : Rs), r_place s a0 a1 = some R → vT sc d 175 0 [(0, .ref 77), (1, vi a0), (2, vi a1)] [] s (fun r => r = qI R)) (hr_headAsked : ∀ d, e ≤ d → ∀ (s : St) (a0 a1 : Int) (R : Rs), r_headAsked s a0 a1 = some R → vT sc d 140 0 [(0, .ref 77), (1, vi a0), (2, vi a1)] [] s (fun r => r = qI R)) (hd : e + 2 ≤ d)   (s : St) (x4 : Int) (z0 : Int) : d_x8_tellsHead_163 N r_place r_headAsked  s x4 z0 = some R → vT sc d 188 163 [(4, vi x4)] [vi z0, .ref 77] s (fun r => r = qI R) := by
  obtain ⟨d, rfl⟩ : ∃ d', d = d' + 1 := ⟨d - 1, by omega⟩
  unfold d_x8_tellsHead_163
  refine vLi 165 i188_163 rfl rfl ?_
  refine vK 166 i188_165 rfl ?_
  refine vIdiv 167 rfl (show w32 2 = 2 from rfl) i188_166 rfl ?_
  refine vCallI 170 [.ref 77, vi z0, vi (Int.tdiv (w32 x4) 2)] [] [(0, .ref 77), (1, vi z0), (2, vi (Int.tdiv (w32 x4) 2))] i188_167 rfl (xlk0 l188_348) (Or.inl rfl) m140 rfl rfl (Nat.le_of_ble_eq_true rfl) (Nat.le_of_ble_eq_true rfl) (Nat.le_of_ble_eq_true rfl) (xh0 sh_77 (by decide)) rfl rfl (hr_headAsked d (by omega) s z0 (Int.tdiv (w32 x4) 2)) (fun s12 v13 => ?_)
  exact vRi i188_170 m188 rfl
def d_x8_tellsHead_106 (N : Nat) (r_place : St → Int → Int → Option Rs) (r_headAsked : St → Int → Int → Option Rs)  (s : St) (x1 : Int) (x2 : Int) : Option Rs :=
  if 0 ≤ (w32 ((64 * x1) + x2)) ∧ (w32 ((64 * x1) + x2)) < ((12288 : Nat) : Int) then bI (r_headAsked s (x1 + 1) (s 93 (Int.toNat (w32 ((64 * x1) + x2))))) fun s14 v15 => some (s14, v15) else none
set_option maxHeartbeats 4000000 in
set_option maxRecDepth 100000 in
theorem c_x8_tellsHead_106 {sc : xS} {d : Nat} {R : Rs} (N : Nat) (r_place : St → Int → Int → Option Rs) (r_headAsked : St → Int → Int → Option Rs) (e : Nat) (hr_place : ∀ d, e ≤ d → ∀ (s : St) (a0 a1 : Int) (R : Rs), r_place s a0 a1 = some R → vT sc d 175 0 [(0, .ref 77), (1, vi a0), (2, vi a1)] [] s (fun r => r = qI R)) (hr_headAsked : ∀ d, e ≤ d → ∀ (s : St) (a0 a1 : Int) (R : Rs), r_headAsked s a0 a1 = some R → vT sc d 140 0 [(0, .ref 77), (1, vi a0), (2, vi a1)] [] s (fun r => r = qI R)) (hd : e + 2 ≤ d)   (s : St) (x1 : Int) (x2 : Int) : d_x8_tellsHead_106 N r_place r_headAsked  s x1 x2 = some R → vT sc d 188 106 [(0, .ref 77), (1, vi x1), (2, vi x2)] [] s (fun r => r = qI R) := by
  obtain ⟨d, rfl⟩ : ∃ d', d = d' + 1 := ⟨d - 1, by omega⟩
  unfold d_x8_tellsHead_106
  refine vLan 107 i188_106 rfl rfl ?_
  refine vLin 108 i188_107 rfl rfl ?_
  refine vK 109 i188_108 rfl ?_
  refine vIadd 110 i188_109 rfl ?_
  refine vLan 111 i188_110 rfl rfl ?_
  refine vGetC 114 i188_111 f188_64 sh_77 rfl rfl ?_
  refine vKb 116 i188_114 (by decide) rfl ?_
  refine vLin 117 i188_116 rfl rfl ?_
  refine vImul 118 i188_117 rfl ?_
  refine vLin 119 i188_118 rfl rfl ?_
  refine vIadd 120 i188_119 rfl ?_
  refine vIal 121 rfl i188_120 sh_93 rfl ?_
  refine vCallI 124 [.ref 77, vi (x1 + 1), vi (s 93 (Int.toNat (w32 ((64 * x1) + x2))))] [] [(0, .ref 77), (1, vi (x1 + 1)), (2, vi (s 93 (Int.toNat (w32 ((64 * x1) + x2)))))] i188_121 rfl (xlk0 l188_348) (Or.inl rfl) m140 rfl rfl (Nat.le_of_ble_eq_true rfl) (Nat.le_of_ble_eq_true rfl) (Nat.le_of_ble_eq_true rfl) (xh0 sh_77 (by decide)) rfl rfl (hr_headAsked d (by omega) s (x1 + 1) (s 93 (Int.toNat (w32 ((64 * x1) + x2))))) (fun s14 v15 => ?_)
  exact vRi i188_124 m188 rfl
def d_x8_tellsHead_82 (N : Nat) (r_place : St → Int → Int → Option Rs) (r_headAsked : St → Int → Int → Option Rs)  (s : St) (x1 : Int) (x2 : Int) (x3 : Int) : Option Rs :=
  (if (w32 x3) = 13 then bI (d_x8_cuts N r_place r_headAsked s x1 x2) fun s19 v20 => some (s19, v20) else (if (w32 x3) = 4 then d_x8_tellsHead_106 N r_place r_headAsked  s x1 x2 else (if (w32 x3) = 11 then d_x8_tellsHead_106 N r_place r_headAsked  s x1 x2 else (if (w32 x3) = 7 then if 0 ≤ (w32 ((64 * x1) + x2)) ∧ (w32 ((64 * x1) + x2)) < ((12288 : Nat) : Int) then bd (s 93 (Int.toNat (w32 ((64 * x1) + x2)))) fun v16 => if 2 = 0 then none else (if (w32 (Int.tmod (w32 v16) 2)) = 0 then d_x8_tellsHead_163 N r_place r_headAsked  s v16 (x1 + 1) else bI (d_x8_other N  s x1) fun s17 v18 => d_x8_tellsHead_163 N r_place r_headAsked  s17 v16 v18) else none else (if (w32 x3) = 10 then (if 0 < (w32 x2) then d_x8_tellsHead_186 N r_place r_headAsked  s x1 x2 x3 1 else d_x8_tellsHead_185 N r_place r_headAsked  s x1 x2 x3) else d_x8_tellsHead_185 N r_place r_headAsked  s x1 x2 x3)))))
set_option maxHeartbeats 4000000 in
set_option maxRecDepth 100000 in
theorem c_x8_tellsHead_82 {sc : xS} {d : Nat} {R : Rs} (N : Nat) (r_place : St → Int → Int → Option Rs) (r_headAsked : St → Int → Int → Option Rs) (e : Nat) (hr_place : ∀ d, e ≤ d → ∀ (s : St) (a0 a1 : Int) (R : Rs), r_place s a0 a1 = some R → vT sc d 175 0 [(0, .ref 77), (1, vi a0), (2, vi a1)] [] s (fun r => r = qI R)) (hr_headAsked : ∀ d, e ≤ d → ∀ (s : St) (a0 a1 : Int) (R : Rs), r_headAsked s a0 a1 = some R → vT sc d 140 0 [(0, .ref 77), (1, vi a0), (2, vi a1)] [] s (fun r => r = qI R)) (hd : e + 2 ≤ d)   (s : St) (x1 : Int) (x2 : Int) (x3 : Int) : d_x8_tellsHead_82 N r_place r_headAsked  s x1 x2 x3 = some R → vT sc d 188 82 [(0, .ref 77), (1, vi x1), (2, vi x2), (3, vi x3)] [] s (fun r => r = qI R) := by
  obtain ⟨d, rfl⟩ : ∃ d', d = d' + 1 := ⟨d - 1, by omega⟩
  unfold d_x8_tellsHead_82
  refine vLin 83 i188_82 rfl rfl ?_
  refine vKb 85 i188_83 (by decide) rfl ?_
  refine vCne 95 88 rfl (show w32 13 = 13 from rfl) i188_85 rfl rfl ?_ ?_
  · refine vLin 96 i188_95 rfl rfl ?_
    refine vK 97 i188_96 rfl ?_
    refine vCeq 106 100 rfl (show w32 4 = 4 from rfl) i188_97 rfl rfl ?_ ?_
    · exact fun hD => tLc [(0, .ref 77), (1, vi x1), (2, vi x2)] (xNdk [0, 1, 2] rfl (by decide)) (xNdk [0, 1, 2, 3] rfl (by decide)) ⟨rfl, rfl, rfl, trivial⟩ (c_x8_tellsHead_106 N r_place r_headAsked e hr_place hr_headAsked hd  s x1 x2 hD)
    · refine vLin 101 i188_100 rfl rfl ?_
      refine vKb 103 i188_101 (by decide) rfl ?_
      refine vCne 125 106 rfl (show w32 11 = 11 from rfl) i188_103 rfl rfl ?_ ?_
      · refine vLin 126 i188_125 rfl rfl ?_
        refine vKb 128 i188_126 (by decide) rfl ?_
        refine vCne 171 131 rfl (show w32 7 = 7 from rfl) i188_128 rfl rfl ?_ ?_
        · refine vLin 172 i188_171 rfl rfl ?_
          refine vKb 174 i188_172 (by decide) rfl ?_
          refine vCne 185 177 rfl (show w32 10 = 10 from rfl) i188_174 rfl rfl ?_ ?_
          · exact fun hD => c_x8_tellsHead_185 N r_place r_headAsked e hr_place hr_headAsked hd  s x1 x2 x3 hD
          · refine vLin 178 i188_177 rfl rfl ?_
            refine vZle 185 181 rfl i188_178 rfl rfl ?_ ?_
            · exact fun hD => c_x8_tellsHead_185 N r_place r_headAsked e hr_place hr_headAsked hd  s x1 x2 x3 hD
            · refine vK 182 i188_181 rfl ?_
              refine vGo 186 i188_182 rfl ?_
              exact fun hD => c_x8_tellsHead_186 N r_place r_headAsked e hr_place hr_headAsked hd  s x1 x2 x3 1 hD
        · refine vLan 132 i188_131 rfl rfl ?_
          refine vGetC 135 i188_132 f188_64 sh_77 rfl rfl ?_
          refine vKb 137 i188_135 (by decide) rfl ?_
          refine vLin 138 i188_137 rfl rfl ?_
          refine vImul 139 i188_138 rfl ?_
          refine vLin 140 i188_139 rfl rfl ?_
          refine vIadd 141 i188_140 rfl ?_
          refine vIal 142 rfl i188_141 sh_93 rfl ?_
          refine vSi 144 (fun v16 => [(4, vi v16), (0, .ref 77), (1, vi x1), (2, vi x2), (3, vi x3)]) i188_142 m188 (by decide) (fun v16 => (rfl : xst1 [(0, .ref 77), (1, vi x1), (2, vi x2), (3, vi x3)] 4 (vi v16) = [(4, vi v16), (0, .ref 77), (1, vi x1), (2, vi x2), (3, vi x3)])) rfl (fun v16 => ?_)
          refine vLan 145 i188_144 rfl rfl ?_
          refine vLi 147 i188_145 rfl rfl ?_
          refine vK 148 i188_147 rfl ?_
          refine vIrem 149 rfl (show w32 2 = 2 from rfl) i188_148 rfl ?_
          refine vZne 158 152 rfl i188_149 rfl rfl ?_ ?_
          · refine vLan 159 i188_158 rfl rfl ?_
            refine vLin 160 i188_159 rfl rfl ?_
            refine vCallI 163 [.ref 77, vi x1] [.ref 77] [(0, .ref 77), (1, vi x1)] i188_160 rfl (xlk0 l188_345) (Or.inl rfl) m171 rfl rfl (Nat.le_of_ble_eq_true rfl) (Nat.le_of_ble_eq_true rfl) (Nat.le_of_ble_eq_true rfl) (xh0 sh_77 (by decide)) rfl rfl (fun R1 => c_x8_other N   (by omega) s x1) (fun s17 v18 => ?_)
            exact fun hD => tLc [(4, vi v16)] (xNdk [4] rfl (by decide)) (xNdk [4, 0, 1, 2, 3] rfl (by decide)) ⟨rfl, trivial⟩ (c_x8_tellsHead_163 N r_place r_headAsked e hr_place hr_headAsked hd  s17 v16 v18 hD)
          · refine vLin 153 i188_152 rfl rfl ?_
            refine vK 154 i188_153 rfl ?_
            refine vIadd 155 i188_154 rfl ?_
            refine vGo 163 i188_155 rfl ?_
            exact fun hD => tLc [(4, vi v16)] (xNdk [4] rfl (by decide)) (xNdk [4, 0, 1, 2, 3] rfl (by decide)) ⟨rfl, trivial⟩ (c_x8_tellsHead_163 N r_place r_headAsked e hr_place hr_headAsked hd  s v16 (x1 + 1) hD)
      · exact fun hD => tLc [(0, .ref 77), (1, vi x1), (2, vi x2)] (xNdk [0, 1, 2] rfl (by decide)) (xNdk [0, 1, 2, 3] rfl (by decide)) ⟨rfl, rfl, rfl, trivial⟩ (c_x8_tellsHead_106 N r_place r_headAsked e hr_place hr_headAsked hd  s x1 x2 hD)
  · refine vLan 89 i188_88 rfl rfl ?_
    refine vLin 90 i188_89 rfl rfl ?_
    refine vLin 91 i188_90 rfl rfl ?_
    refine vCallI 94 [.ref 77, vi x1, vi x2] [] [(0, .ref 77), (1, vi x1), (2, vi x2)] i188_91 rfl (xlk0 l188_366) (Or.inl rfl) m125 rfl rfl (Nat.le_of_ble_eq_true rfl) (Nat.le_of_ble_eq_true rfl) (Nat.le_of_ble_eq_true rfl) (xh0 sh_77 (by decide)) rfl rfl (fun R1 => c_x8_cuts N r_place r_headAsked e hr_place hr_headAsked (by omega) s x1 x2) (fun s19 v20 => ?_)
    exact vRi i188_94 m188 rfl
def d_x8_tellsHead_77 (N : Nat) (r_place : St → Int → Int → Option Rs) (r_headAsked : St → Int → Int → Option Rs)  (s : St) (z0 : Int) : Option Rs :=
  bd (up s 77 38 z0) fun s21 => some (s21, 1)
set_option maxHeartbeats 4000000 in
set_option maxRecDepth 100000 in
theorem c_x8_tellsHead_77 {sc : xS} {d : Nat} {R : Rs} (N : Nat) (r_place : St → Int → Int → Option Rs) (r_headAsked : St → Int → Int → Option Rs) (e : Nat) (hr_place : ∀ d, e ≤ d → ∀ (s : St) (a0 a1 : Int) (R : Rs), r_place s a0 a1 = some R → vT sc d 175 0 [(0, .ref 77), (1, vi a0), (2, vi a1)] [] s (fun r => r = qI R)) (hr_headAsked : ∀ d, e ≤ d → ∀ (s : St) (a0 a1 : Int) (R : Rs), r_headAsked s a0 a1 = some R → vT sc d 140 0 [(0, .ref 77), (1, vi a0), (2, vi a1)] [] s (fun r => r = qI R)) (hd : e + 2 ≤ d)   (s : St) (z0 : Int) : d_x8_tellsHead_77 N r_place r_headAsked  s z0 = some R → vT sc d 188 77 [] [vl z0, .ref 77] s (fun r => r = qI R) := by
  obtain ⟨d, rfl⟩ : ∃ d', d = d' + 1 := ⟨d - 1, by omega⟩
  unfold d_x8_tellsHead_77
  refine vPutL 80 i188_77 p188_351 sh_77 rfl rfl (fun s21 => ?_)
  refine vK 81 i188_80 rfl ?_
  exact vRi i188_81 m188 rfl
def d_x8_tellsHead_27 (N : Nat) (r_place : St → Int → Int → Option Rs) (r_headAsked : St → Int → Int → Option Rs)  (s : St) (x1 : Int) (x2 : Int) (x3 : Int) : Option Rs :=
  (if (w32 x3) = 1 then if 0 ≤ (w32 x1) ∧ (w32 x1) < ((192 : Nat) : Int) then if 0 ≤ (w32 x1) ∧ (w32 x1) < ((192 : Nat) : Int) then d_x8_tellsHead_77 N r_place r_headAsked  s ((s 82 (Int.toNat (w32 x1))) + ((w32 x2) * (s 83 (Int.toNat (w32 x1))))) else none else none else (if (w32 x3) = 2 then if 0 ≤ (w32 ((8 * x1) + x2)) ∧ (w32 ((8 * x1) + x2)) < ((1536 : Nat) : Int) then d_x8_tellsHead_77 N r_place r_headAsked  s (s 85 (Int.toNat (w32 ((8 * x1) + x2)))) else none else if 0 ≤ (w32 x1) ∧ (w32 x1) < ((192 : Nat) : Int) then d_x8_tellsHead_77 N r_place r_headAsked  s (s 82 (Int.toNat (w32 x1))) else none))
set_option maxHeartbeats 4000000 in
set_option maxRecDepth 100000 in
theorem c_x8_tellsHead_27 {sc : xS} {d : Nat} {R : Rs} (N : Nat) (r_place : St → Int → Int → Option Rs) (r_headAsked : St → Int → Int → Option Rs) (e : Nat) (hr_place : ∀ d, e ≤ d → ∀ (s : St) (a0 a1 : Int) (R : Rs), r_place s a0 a1 = some R → vT sc d 175 0 [(0, .ref 77), (1, vi a0), (2, vi a1)] [] s (fun r => r = qI R)) (hr_headAsked : ∀ d, e ≤ d → ∀ (s : St) (a0 a1 : Int) (R : Rs), r_headAsked s a0 a1 = some R → vT sc d 140 0 [(0, .ref 77), (1, vi a0), (2, vi a1)] [] s (fun r => r = qI R)) (hd : e + 2 ≤ d)   (s : St) (x1 : Int) (x2 : Int) (x3 : Int) : d_x8_tellsHead_27 N r_place r_headAsked  s x1 x2 x3 = some R → vT sc d 188 27 [(0, .ref 77), (1, vi x1), (2, vi x2), (3, vi x3)] [] s (fun r => r = qI R) := by
  obtain ⟨d, rfl⟩ : ∃ d', d = d' + 1 := ⟨d - 1, by omega⟩
  unfold d_x8_tellsHead_27
  refine vLan 28 i188_27 rfl rfl ?_
  refine vLin 29 i188_28 rfl rfl ?_
  refine vK 30 i188_29 rfl ?_
  refine vCne 52 33 rfl (show w32 1 = 1 from rfl) i188_30 rfl rfl ?_ ?_
  · refine vLin 53 i188_52 rfl rfl ?_
    refine vK 54 i188_53 rfl ?_
    refine vCne 71 57 rfl (show w32 2 = 2 from rfl) i188_54 rfl rfl ?_ ?_
    · refine vLan 72 i188_71 rfl rfl ?_
      refine vGetC 75 i188_72 f188_26 sh_77 rfl rfl ?_
      refine vLin 76 i188_75 rfl rfl ?_
      refine vLal 77 rfl i188_76 sh_82 rfl ?_
      exact fun hD => tLc [] (xNdk [] rfl (by decide)) (xNdk [0, 1, 2, 3] rfl (by decide)) trivial (c_x8_tellsHead_77 N r_place r_headAsked e hr_place hr_headAsked hd  s (s 82 (Int.toNat (w32 x1))) hD)
    · refine vLan 58 i188_57 rfl rfl ?_
      refine vGetC 61 i188_58 f188_36 sh_77 rfl rfl ?_
      refine vKb 63 i188_61 (by decide) rfl ?_
      refine vLin 64 i188_63 rfl rfl ?_
      refine vImul 65 i188_64 rfl ?_
      refine vLin 66 i188_65 rfl rfl ?_
      refine vIadd 67 i188_66 rfl ?_
      refine vLal 68 rfl i188_67 sh_85 rfl ?_
      refine vGo 77 i188_68 rfl ?_
      exact fun hD => tLc [] (xNdk [] rfl (by decide)) (xNdk [0, 1, 2, 3] rfl (by decide)) trivial (c_x8_tellsHead_77 N r_place r_headAsked e hr_place hr_headAsked hd  s (s 85 (Int.toNat (w32 ((8 * x1) + x2)))) hD)
  · refine vLan 34 i188_33 rfl rfl ?_
    refine vGetC 37 i188_34 f188_26 sh_77 rfl rfl ?_
    refine vLin 38 i188_37 rfl rfl ?_
    refine vLal 39 rfl i188_38 sh_82 rfl ?_
    refine vLin 40 i188_39 rfl rfl ?_
    refine vI2l 41 i188_40 rfl ?_
    refine vLan 42 i188_41 rfl rfl ?_
    refine vGetC 45 i188_42 f188_30 sh_77 rfl rfl ?_
    refine vLin 46 i188_45 rfl rfl ?_
    refine vLal 47 rfl i188_46 sh_83 rfl ?_
    refine vLmul 48 i188_47 rfl ?_
    refine vLadd 49 i188_48 rfl ?_
    refine vGo 77 i188_49 rfl ?_
    exact fun hD => tLc [] (xNdk [] rfl (by decide)) (xNdk [0, 1, 2, 3] rfl (by decide)) trivial (c_x8_tellsHead_77 N r_place r_headAsked e hr_place hr_headAsked hd  s ((s 82 (Int.toNat (w32 x1))) + ((w32 x2) * (s 83 (Int.toNat (w32 x1))))) hD)
def d_x8_tellsHead (N : Nat) (r_place : St → Int → Int → Option Rs) (r_headAsked : St → Int → Int → Option Rs)  (s : St) (a0 : Int) (a1 : Int) : Option Rs :=
  if 0 ≤ (w32 a0) ∧ (w32 a0) < ((192 : Nat) : Int) then bd (s 79 (Int.toNat (w32 a0))) fun v22 => (if (w32 v22) = 1 then d_x8_tellsHead_27 N r_place r_headAsked  s a0 a1 v22 else (if (w32 v22) = 2 then d_x8_tellsHead_27 N r_place r_headAsked  s a0 a1 v22 else (if (w32 v22) = 12 then (if (w32 a1) = 0 then d_x8_tellsHead_27 N r_place r_headAsked  s a0 a1 v22 else d_x8_tellsHead_82 N r_place r_headAsked  s a0 a1 v22) else d_x8_tellsHead_82 N r_place r_headAsked  s a0 a1 v22))) else none
set_option maxHeartbeats 4000000 in
set_option maxRecDepth 100000 in
theorem c_x8_tellsHead {sc : xS} {d : Nat} {R : Rs} (N : Nat) (r_place : St → Int → Int → Option Rs) (r_headAsked : St → Int → Int → Option Rs) (e : Nat) (hr_place : ∀ d, e ≤ d → ∀ (s : St) (a0 a1 : Int) (R : Rs), r_place s a0 a1 = some R → vT sc d 175 0 [(0, .ref 77), (1, vi a0), (2, vi a1)] [] s (fun r => r = qI R)) (hr_headAsked : ∀ d, e ≤ d → ∀ (s : St) (a0 a1 : Int) (R : Rs), r_headAsked s a0 a1 = some R → vT sc d 140 0 [(0, .ref 77), (1, vi a0), (2, vi a1)] [] s (fun r => r = qI R)) (hd : e + 2 ≤ d)   (s : St) (a0 : Int) (a1 : Int) : d_x8_tellsHead N r_place r_headAsked  s a0 a1 = some R → vT sc d 188 0 [(0, .ref 77), (1, vi a0), (2, vi a1)] [] s (fun r => r = qI R) := by
  obtain ⟨d, rfl⟩ : ∃ d', d = d' + 1 := ⟨d - 1, by omega⟩
  unfold d_x8_tellsHead
  refine vLan 1 i188_0 rfl rfl ?_
  refine vGetC 4 i188_1 f188_17 sh_77 rfl rfl ?_
  refine vLin 5 i188_4 rfl rfl ?_
  refine vIal 6 rfl i188_5 sh_79 rfl ?_
  refine vSin 7 (fun v22 => [(3, vi v22), (0, .ref 77), (1, vi a0), (2, vi a1)]) i188_6 m188 (by decide) (fun v22 => (rfl : xst1 [(0, .ref 77), (1, vi a0), (2, vi a1)] 3 (vi v22) = [(3, vi v22), (0, .ref 77), (1, vi a0), (2, vi a1)])) rfl (fun v22 => ?_)
  refine vLin 8 i188_7 rfl rfl ?_
  refine vK 9 i188_8 rfl ?_
  refine vCeq 27 12 rfl (show w32 1 = 1 from rfl) i188_9 rfl rfl ?_ ?_
  · exact fun hD => tLc [(0, .ref 77), (1, vi a0), (2, vi a1), (3, vi v22)] (xNdk [0, 1, 2, 3] rfl (by decide)) (xNdk [3, 0, 1, 2] rfl (by decide)) ⟨rfl, rfl, rfl, rfl, trivial⟩ (c_x8_tellsHead_27 N r_place r_headAsked e hr_place hr_headAsked hd  s a0 a1 v22 hD)
  · refine vLin 13 i188_12 rfl rfl ?_
    refine vK 14 i188_13 rfl ?_
    refine vCeq 27 17 rfl (show w32 2 = 2 from rfl) i188_14 rfl rfl ?_ ?_
    · exact fun hD => tLc [(0, .ref 77), (1, vi a0), (2, vi a1), (3, vi v22)] (xNdk [0, 1, 2, 3] rfl (by decide)) (xNdk [3, 0, 1, 2] rfl (by decide)) ⟨rfl, rfl, rfl, rfl, trivial⟩ (c_x8_tellsHead_27 N r_place r_headAsked e hr_place hr_headAsked hd  s a0 a1 v22 hD)
    · refine vLin 18 i188_17 rfl rfl ?_
      refine vKb 20 i188_18 (by decide) rfl ?_
      refine vCne 82 23 rfl (show w32 12 = 12 from rfl) i188_20 rfl rfl ?_ ?_
      · exact fun hD => tLc [(0, .ref 77), (1, vi a0), (2, vi a1), (3, vi v22)] (xNdk [0, 1, 2, 3] rfl (by decide)) (xNdk [3, 0, 1, 2] rfl (by decide)) ⟨rfl, rfl, rfl, rfl, trivial⟩ (c_x8_tellsHead_82 N r_place r_headAsked e hr_place hr_headAsked hd  s a0 a1 v22 hD)
      · refine vLin 24 i188_23 rfl rfl ?_
        refine vZne 82 27 rfl i188_24 rfl rfl ?_ ?_
        · exact fun hD => tLc [(0, .ref 77), (1, vi a0), (2, vi a1), (3, vi v22)] (xNdk [0, 1, 2, 3] rfl (by decide)) (xNdk [3, 0, 1, 2] rfl (by decide)) ⟨rfl, rfl, rfl, rfl, trivial⟩ (c_x8_tellsHead_82 N r_place r_headAsked e hr_place hr_headAsked hd  s a0 a1 v22 hD)
        · exact fun hD => tLc [(0, .ref 77), (1, vi a0), (2, vi a1), (3, vi v22)] (xNdk [0, 1, 2, 3] rfl (by decide)) (xNdk [3, 0, 1, 2] rfl (by decide)) ⟨rfl, rfl, rfl, rfl, trivial⟩ (c_x8_tellsHead_27 N r_place r_headAsked e hr_place hr_headAsked hd  s a0 a1 v22 hD)
theorem f184_351 : xFld xg 184 351 = some (7, 38) := by decide +kernel
theorem i184_3 : xIns xg 184 3 = some (.iload 5) := by decide +kernel
theorem i184_5 : xIns xg 184 5 = some (.iload_n 2) := by decide +kernel
theorem i184_6 : xIns xg 184 6 = some (.if_icmp .ge 52) := by decide +kernel
theorem i184_58 : xIns xg 184 58 = some (.iconst 1) := by decide +kernel
theorem i184_59 : xIns xg 184 59 = some (.ireturn) := by decide +kernel
theorem m184 : (xMet xg 184).2.2 = (7, (some .int)) := by decide +kernel
theorem i184_9 : xIns xg 184 9 = some (.aload_n 0) := by decide +kernel
theorem i184_10 : xIns xg 184 10 = some (.iload_n 1) := by decide +kernel
theorem i184_11 : xIns xg 184 11 = some (.iload 5) := by decide +kernel
theorem i184_13 : xIns xg 184 13 = some (.invokevirtual 348) := by decide +kernel
theorem i184_16 : xIns xg 184 16 = some (.istore 6) := by decide +kernel
theorem i184_18 : xIns xg 184 18 = some (.iload 6) := by decide +kernel
theorem i184_20 : xIns xg 184 20 = some (.iconst 1) := by decide +kernel
theorem i184_21 : xIns xg 184 21 = some (.if_icmp .eq 6) := by decide +kernel
theorem i184_27 : xIns xg 184 27 = some (.aload_n 0) := by decide +kernel
theorem i184_28 : xIns xg 184 28 = some (.getfield 351) := by decide +kernel
theorem i184_31 : xIns xg 184 31 = some (.lconst 0) := by decide +kernel
theorem i184_32 : xIns xg 184 32 = some (.lcmp) := by decide +kernel
theorem i184_33 : xIns xg 184 33 = some (.ifCond .ne 6) := by decide +kernel
theorem i184_39 : xIns xg 184 39 = some (.lload_n 3) := by decide +kernel
theorem i184_40 : xIns xg 184 40 = some (.aload_n 0) := by decide +kernel
theorem i184_41 : xIns xg 184 41 = some (.getfield 351) := by decide +kernel
theorem i184_44 : xIns xg 184 44 = some (.lrem) := by decide +kernel
theorem i184_45 : xIns xg 184 45 = some (.lconst 0) := by decide +kernel
theorem i184_46 : xIns xg 184 46 = some (.lcmp) := by decide +kernel
theorem i184_47 : xIns xg 184 47 = some (.ifCond .ne 5) := by decide +kernel
theorem i184_52 : xIns xg 184 52 = some (.iinc 5 1) := by decide +kernel
theorem i184_55 : xIns xg 184 55 = some (.goto (-52)) := by decide +kernel
theorem i184_50 : xIns xg 184 50 = some (.iconst 0) := by decide +kernel
theorem i184_51 : xIns xg 184 51 = some (.ireturn) := by decide +kernel
theorem i184_36 : xIns xg 184 36 = some (.bipush (-22)) := by decide +kernel
theorem i184_38 : xIns xg 184 38 = some (.ireturn) := by decide +kernel
theorem i184_24 : xIns xg 184 24 = some (.iload 6) := by decide +kernel
theorem i184_26 : xIns xg 184 26 = some (.ireturn) := by decide +kernel
theorem i184_0 : xIns xg 184 0 = some (.iconst 0) := by decide +kernel
theorem i184_1 : xIns xg 184 1 = some (.istore 5) := by decide +kernel
def d_x8_sieved_3 (N : Nat) (r_place : St → Int → Int → Option Rs) (r_headAsked : St → Int → Int → Option Rs)  (k3 : St → Int → Int → Int → Int → Option Rs) (s : St) (x1 : Int) (x2 : Int) (x3 : Int) (x5 : Int) : Option Rs :=
  (if (w32 x5) < (w32 x2) then bI (r_headAsked s x1 x5) fun s1 v2 => (if (w32 v2) = 1 then (if (w64 (s1 77 38)) = 0 then some (s1, (-22)) else if (w64 (s1 77 38)) = 0 then none else (if (w64 (Int.tmod (w64 x3) (w64 (s1 77 38)))) = 0 then some (s1, 0) else bd (x5 + 1) fun v3 => k3 s1 x1 x2 x3 v3)) else some (s1, v2)) else some (s, 1))
def d_x8_sieved_3L (N : Nat) (r_place : St → Int → Int → Option Rs) (r_headAsked : St → Int → Int → Option Rs)  : Nat → St → Int → Int → Int → Int → Option Rs
  | 0 => fun _ _ _ _ _ => none
  | n + 1 => d_x8_sieved_3 N r_place r_headAsked  (d_x8_sieved_3L N r_place r_headAsked  n)
set_option maxHeartbeats 4000000 in
set_option maxRecDepth 100000 in
theorem c_x8_sieved_3 {sc : xS} {d : Nat} {R : Rs} (N : Nat) (r_place : St → Int → Int → Option Rs) (r_headAsked : St → Int → Int → Option Rs) (e : Nat) (hr_place : ∀ d, e ≤ d → ∀ (s : St) (a0 a1 : Int) (R : Rs), r_place s a0 a1 = some R → vT sc d 175 0 [(0, .ref 77), (1, vi a0), (2, vi a1)] [] s (fun r => r = qI R)) (hr_headAsked : ∀ d, e ≤ d → ∀ (s : St) (a0 a1 : Int) (R : Rs), r_headAsked s a0 a1 = some R → vT sc d 140 0 [(0, .ref 77), (1, vi a0), (2, vi a1)] [] s (fun r => r = qI R)) (hd : e + 1 ≤ d)   (k3 : St → Int → Int → Int → Int → Option Rs) (hk3 : ∀ (s : St) (x1 : Int) (x2 : Int) (x3 : Int) (x5 : Int), k3 s x1 x2 x3 x5 = some R → vT sc d 184 3 [(0, .ref 77), (1, vi x1), (2, vi x2), (3, vl x3), (5, vi x5)] [] s (fun r => r = qI R)) (s : St) (x1 : Int) (x2 : Int) (x3 : Int) (x5 : Int) : d_x8_sieved_3 N r_place r_headAsked  k3 s x1 x2 x3 x5 = some R → vT sc d 184 3 [(0, .ref 77), (1, vi x1), (2, vi x2), (3, vl x3), (5, vi x5)] [] s (fun r => r = qI R) := by
  obtain ⟨d, rfl⟩ : ∃ d', d = d' + 1 := ⟨d - 1, by omega⟩
  unfold d_x8_sieved_3
  refine vLi 5 i184_3 rfl rfl ?_
  refine vLin 6 i184_5 rfl rfl ?_
  refine vCge 58 9 rfl rfl i184_6 rfl rfl ?_ ?_
  · refine vK 59 i184_58 rfl ?_
    exact vRi i184_59 m184 rfl
  · refine vLan 10 i184_9 rfl rfl ?_
    refine vLin 11 i184_10 rfl rfl ?_
    refine vLi 13 i184_11 rfl rfl ?_
    refine vCallI 16 [.ref 77, vi x1, vi x5] [] [(0, .ref 77), (1, vi x1), (2, vi x5)] i184_13 rfl (xlk0 l184_348) (Or.inl rfl) m140 rfl rfl (Nat.le_of_ble_eq_true rfl) (Nat.le_of_ble_eq_true rfl) (Nat.le_of_ble_eq_true rfl) (xh0 sh_77 (by decide)) rfl rfl (hr_headAsked d (by omega) s x1 x5) (fun s1 v2 => ?_)
    refine vSi0 18 [(6, vi v2), (0, .ref 77), (1, vi x1), (2, vi x2), (3, vl x3), (5, vi x5)] i184_16 m184 (by decide) rfl rfl ?_
    refine vLi 20 i184_18 rfl rfl ?_
    refine vK 21 i184_20 rfl ?_
    refine vCeq 27 24 rfl (show w32 1 = 1 from rfl) i184_21 rfl rfl ?_ ?_
    · refine vLan 28 i184_27 rfl rfl ?_
      refine vGetL 31 i184_28 f184_351 sh_77 rfl rfl ?_
      refine vKl 32 0 i184_31 (by decide) rfl ?_
      refine vLcne 39 33 36 rfl (show w64 0 = 0 from rfl) i184_32 rfl i184_33 rfl rfl ?_ ?_
      · refine vLln 40 i184_39 rfl rfl ?_
        refine vLan 41 i184_40 rfl rfl ?_
        refine vGetL 44 i184_41 f184_351 sh_77 rfl rfl ?_
        refine vLrem 45 rfl rfl i184_44 rfl ?_
        refine vKl 46 0 i184_45 (by decide) rfl ?_
        refine vLcne 52 47 50 rfl (show w64 0 = 0 from rfl) i184_46 rfl i184_47 rfl rfl ?_ ?_
        · refine vInc 55 (fun v3 => [(5, vi v3), (6, vi v2), (0, .ref 77), (1, vi x1), (2, vi x2), (3, vl x3)]) i184_52 m184 (by decide) rfl (fun _ => rfl) rfl (fun v3 => ?_)
          refine vGo 3 i184_55 rfl ?_
          exact fun hD => tLc [(0, .ref 77), (1, vi x1), (2, vi x2), (3, vl x3), (5, vi v3)] (xNdk [0, 1, 2, 3, 5] rfl (by decide)) (xNdk [5, 6, 0, 1, 2, 3] rfl (by decide)) ⟨rfl, rfl, rfl, rfl, rfl, trivial⟩ (hk3 s1 x1 x2 x3 v3 hD)
        · refine vK 51 i184_50 rfl ?_
          exact vRi i184_51 m184 rfl
      · refine vKb 38 i184_36 (by decide) rfl ?_
        exact vRi i184_38 m184 rfl
    · refine vLi 26 i184_24 rfl rfl ?_
      exact vRi i184_26 m184 rfl
theorem c_x8_sieved_3L {sc : xS} {d : Nat} {R : Rs} (N : Nat) (r_place : St → Int → Int → Option Rs) (r_headAsked : St → Int → Int → Option Rs) (e : Nat) (hr_place : ∀ d, e ≤ d → ∀ (s : St) (a0 a1 : Int) (R : Rs), r_place s a0 a1 = some R → vT sc d 175 0 [(0, .ref 77), (1, vi a0), (2, vi a1)] [] s (fun r => r = qI R)) (hr_headAsked : ∀ d, e ≤ d → ∀ (s : St) (a0 a1 : Int) (R : Rs), r_headAsked s a0 a1 = some R → vT sc d 140 0 [(0, .ref 77), (1, vi a0), (2, vi a1)] [] s (fun r => r = qI R)) (hd : e + 1 ≤ d)   : ∀ (n : Nat) (s : St) (x1 : Int) (x2 : Int) (x3 : Int) (x5 : Int), d_x8_sieved_3L N r_place r_headAsked  n s x1 x2 x3 x5 = some R → vT sc d 184 3 [(0, .ref 77), (1, vi x1), (2, vi x2), (3, vl x3), (5, vi x5)] [] s (fun r => r = qI R) := by
  intro n
  induction n with
  | zero => intro s x1 x2 x3 x5 hD; cases hD
  | succ n ih => intro s x1 x2 x3 x5 hD; exact c_x8_sieved_3 N r_place r_headAsked e hr_place hr_headAsked hd  _ ih s x1 x2 x3 x5 hD
def d_x8_sieved (N : Nat) (r_place : St → Int → Int → Option Rs) (r_headAsked : St → Int → Int → Option Rs)  (s : St) (a0 : Int) (a1 : Int) (a2 : Int) : Option Rs :=
  d_x8_sieved_3L N r_place r_headAsked  N s a0 a1 a2 0
set_option maxHeartbeats 4000000 in
set_option maxRecDepth 100000 in
theorem c_x8_sieved {sc : xS} {d : Nat} {R : Rs} (N : Nat) (r_place : St → Int → Int → Option Rs) (r_headAsked : St → Int → Int → Option Rs) (e : Nat) (hr_place : ∀ d, e ≤ d → ∀ (s : St) (a0 a1 : Int) (R : Rs), r_place s a0 a1 = some R → vT sc d 175 0 [(0, .ref 77), (1, vi a0), (2, vi a1)] [] s (fun r => r = qI R)) (hr_headAsked : ∀ d, e ≤ d → ∀ (s : St) (a0 a1 : Int) (R : Rs), r_headAsked s a0 a1 = some R → vT sc d 140 0 [(0, .ref 77), (1, vi a0), (2, vi a1)] [] s (fun r => r = qI R)) (hd : e + 1 ≤ d)   (s : St) (a0 : Int) (a1 : Int) (a2 : Int) : d_x8_sieved N r_place r_headAsked  s a0 a1 a2 = some R → vT sc d 184 0 [(0, .ref 77), (1, vi a0), (2, vi a1), (3, vl a2)] [] s (fun r => r = qI R) := by
  obtain ⟨d, rfl⟩ : ∃ d', d = d' + 1 := ⟨d - 1, by omega⟩
  unfold d_x8_sieved
  refine vK 1 i184_0 rfl ?_
  refine vSi0 3 [(5, vi 0), (0, .ref 77), (1, vi a0), (2, vi a1), (3, vl a2)] i184_1 m184 (by decide) rfl rfl ?_
  exact fun hD => tLc [(0, .ref 77), (1, vi a0), (2, vi a1), (3, vl a2), (5, vi 0)] (xNdk [0, 1, 2, 3, 5] rfl (by decide)) (xNdk [5, 0, 1, 2, 3] rfl (by decide)) ⟨rfl, rfl, rfl, rfl, rfl, trivial⟩ (c_x8_sieved_3L N r_place r_headAsked e hr_place hr_headAsked hd  N s a0 a1 a2 0 hD)
theorem f174_26 : xFld xg 174 26 = some (7, 5) := by decide +kernel
theorem f174_20 : xFld xg 174 20 = some (7, 3) := by decide +kernel
theorem i174_95 : xIns xg 174 95 = some (.iconst 1) := by decide +kernel
theorem i174_96 : xIns xg 174 96 = some (.goto 4) := by decide +kernel
theorem i174_100 : xIns xg 174 100 = some (.ireturn) := by decide +kernel
theorem m174 : (xMet xg 174).2.2 = (6, (some .int)) := by decide +kernel
theorem i174_0 : xIns xg 174 0 = some (.aload_n 0) := by decide +kernel
theorem i174_1 : xIns xg 174 1 = some (.getfield 26) := by decide +kernel
theorem i174_4 : xIns xg 174 4 = some (.iload_n 1) := by decide +kernel
theorem i174_5 : xIns xg 174 5 = some (.laload) := by decide +kernel
theorem i174_6 : xIns xg 174 6 = some (.lstore 4) := by decide +kernel
theorem i174_8 : xIns xg 174 8 = some (.aload_n 0) := by decide +kernel
theorem i174_9 : xIns xg 174 9 = some (.getfield 20) := by decide +kernel
theorem i174_12 : xIns xg 174 12 = some (.iload_n 1) := by decide +kernel
theorem i174_13 : xIns xg 174 13 = some (.iaload) := by decide +kernel
theorem i174_14 : xIns xg 174 14 = some (.bipush 37) := by decide +kernel
theorem i174_16 : xIns xg 174 16 = some (.if_icmp .ne 30) := by decide +kernel
theorem i174_46 : xIns xg 174 46 = some (.aload_n 0) := by decide +kernel
theorem i174_47 : xIns xg 174 47 = some (.getfield 20) := by decide +kernel
theorem i174_50 : xIns xg 174 50 = some (.iload_n 1) := by decide +kernel
theorem i174_51 : xIns xg 174 51 = some (.iaload) := by decide +kernel
theorem i174_52 : xIns xg 174 52 = some (.bipush 60) := by decide +kernel
theorem i174_54 : xIns xg 174 54 = some (.if_icmp .ne 13) := by decide +kernel
theorem i174_67 : xIns xg 174 67 = some (.aload_n 0) := by decide +kernel
theorem i174_68 : xIns xg 174 68 = some (.getfield 20) := by decide +kernel
theorem i174_71 : xIns xg 174 71 = some (.iload_n 1) := by decide +kernel
theorem i174_72 : xIns xg 174 72 = some (.iaload) := by decide +kernel
theorem i174_73 : xIns xg 174 73 = some (.bipush 62) := by decide +kernel
theorem i174_75 : xIns xg 174 75 = some (.if_icmp .ne 13) := by decide +kernel
theorem i174_88 : xIns xg 174 88 = some (.lload_n 2) := by decide +kernel
theorem i174_89 : xIns xg 174 89 = some (.lload 4) := by decide +kernel
theorem i174_91 : xIns xg 174 91 = some (.lcmp) := by decide +kernel
theorem i174_92 : xIns xg 174 92 = some (.ifCond .ne 7) := by decide +kernel
theorem i174_99 : xIns xg 174 99 = some (.iconst 0) := by decide +kernel
theorem i174_78 : xIns xg 174 78 = some (.lload_n 2) := by decide +kernel
theorem i174_79 : xIns xg 174 79 = some (.lload 4) := by decide +kernel
theorem i174_81 : xIns xg 174 81 = some (.lcmp) := by decide +kernel
theorem i174_82 : xIns xg 174 82 = some (.ifCond .le 17) := by decide +kernel
theorem i174_85 : xIns xg 174 85 = some (.goto 10) := by decide +kernel
theorem i174_57 : xIns xg 174 57 = some (.lload_n 2) := by decide +kernel
theorem i174_58 : xIns xg 174 58 = some (.lload 4) := by decide +kernel
theorem i174_60 : xIns xg 174 60 = some (.lcmp) := by decide +kernel
theorem i174_61 : xIns xg 174 61 = some (.ifCond .ge 38) := by decide +kernel
theorem i174_64 : xIns xg 174 64 = some (.goto 31) := by decide +kernel
theorem i174_19 : xIns xg 174 19 = some (.lload 4) := by decide +kernel
theorem i174_21 : xIns xg 174 21 = some (.lconst 0) := by decide +kernel
theorem i174_22 : xIns xg 174 22 = some (.lcmp) := by decide +kernel
theorem i174_23 : xIns xg 174 23 = some (.ifCond .ne 8) := by decide +kernel
theorem i174_31 : xIns xg 174 31 = some (.lload_n 2) := by decide +kernel
theorem i174_32 : xIns xg 174 32 = some (.lload 4) := by decide +kernel
theorem i174_34 : xIns xg 174 34 = some (.lrem) := by decide +kernel
theorem i174_35 : xIns xg 174 35 = some (.lconst 0) := by decide +kernel
theorem i174_36 : xIns xg 174 36 = some (.lcmp) := by decide +kernel
theorem i174_37 : xIns xg 174 37 = some (.ifCond .ne 7) := by decide +kernel
theorem i174_44 : xIns xg 174 44 = some (.iconst 0) := by decide +kernel
theorem i174_45 : xIns xg 174 45 = some (.ireturn) := by decide +kernel
theorem i174_40 : xIns xg 174 40 = some (.iconst 1) := by decide +kernel
theorem i174_41 : xIns xg 174 41 = some (.goto 4) := by decide +kernel
theorem i174_26 : xIns xg 174 26 = some (.bipush (-22)) := by decide +kernel
theorem i174_28 : xIns xg 174 28 = some (.goto 17) := by decide +kernel
def d_x8_passes_95 (N : Nat)  (s : St)  : Option Rs :=
  some (s, 1)
set_option maxHeartbeats 4000000 in
set_option maxRecDepth 100000 in
theorem c_x8_passes_95 {sc : xS} {d : Nat} {R : Rs} (N : Nat)  (hd : 0 ≤ d)   (s : St)  : d_x8_passes_95 N  s  = some R → vT sc d 174 95 [] [] s (fun r => r = qI R) := by
  unfold d_x8_passes_95
  refine vK 96 i174_95 rfl ?_
  refine vGo 100 i174_96 rfl ?_
  exact vRi i174_100 m174 rfl
def d_x8_passes (N : Nat)  (s : St) (a0 : Int) (a1 : Int) : Option Rs :=
  if 0 ≤ (w32 a0) ∧ (w32 a0) < ((192 : Nat) : Int) then bd (s 82 (Int.toNat (w32 a0))) fun v1 => if 0 ≤ (w32 a0) ∧ (w32 a0) < ((192 : Nat) : Int) then (if (w32 (s 80 (Int.toNat (w32 a0)))) = 37 then (if (w64 v1) = 0 then some (s, (-22)) else if (w64 v1) = 0 then none else (if (w64 (Int.tmod (w64 a1) (w64 v1))) = 0 then some (s, 1) else some (s, 0))) else if 0 ≤ (w32 a0) ∧ (w32 a0) < ((192 : Nat) : Int) then (if (w32 (s 80 (Int.toNat (w32 a0)))) = 60 then (if (w64 a1) < (w64 v1) then d_x8_passes_95 N  s  else some (s, 0)) else if 0 ≤ (w32 a0) ∧ (w32 a0) < ((192 : Nat) : Int) then (if (w32 (s 80 (Int.toNat (w32 a0)))) = 62 then (if (w64 v1) < (w64 a1) then d_x8_passes_95 N  s  else some (s, 0)) else (if (w64 a1) = (w64 v1) then d_x8_passes_95 N  s  else some (s, 0))) else none) else none) else none else none
set_option maxHeartbeats 4000000 in
set_option maxRecDepth 100000 in
theorem c_x8_passes {sc : xS} {d : Nat} {R : Rs} (N : Nat)  (hd : 0 ≤ d)   (s : St) (a0 : Int) (a1 : Int) : d_x8_passes N  s a0 a1 = some R → vT sc d 174 0 [(0, .ref 77), (1, vi a0), (2, vl a1)] [] s (fun r => r = qI R) := by
  unfold d_x8_passes
  refine vLan 1 i174_0 rfl rfl ?_
  refine vGetC 4 i174_1 f174_26 sh_77 rfl rfl ?_
  refine vLin 5 i174_4 rfl rfl ?_
  refine vLal 6 rfl i174_5 sh_82 rfl ?_
  refine vSl 8 (fun v1 => [(4, vl v1), (0, .ref 77), (1, vi a0), (2, vl a1)]) i174_6 m174 (by decide) (fun v1 => (rfl : xst2 [(0, .ref 77), (1, vi a0), (2, vl a1)] 4 (vl v1) = [(4, vl v1), (0, .ref 77), (1, vi a0), (2, vl a1)])) rfl (fun v1 => ?_)
  refine vLan 9 i174_8 rfl rfl ?_
  refine vGetC 12 i174_9 f174_20 sh_77 rfl rfl ?_
  refine vLin 13 i174_12 rfl rfl ?_
  refine vIal 14 rfl i174_13 sh_80 rfl ?_
  refine vKb 16 i174_14 (by decide) rfl ?_
  refine vCne 46 19 rfl (show w32 37 = 37 from rfl) i174_16 rfl rfl ?_ ?_
  · refine vLan 47 i174_46 rfl rfl ?_
    refine vGetC 50 i174_47 f174_20 sh_77 rfl rfl ?_
    refine vLin 51 i174_50 rfl rfl ?_
    refine vIal 52 rfl i174_51 sh_80 rfl ?_
    refine vKb 54 i174_52 (by decide) rfl ?_
    refine vCne 67 57 rfl (show w32 60 = 60 from rfl) i174_54 rfl rfl ?_ ?_
    · refine vLan 68 i174_67 rfl rfl ?_
      refine vGetC 71 i174_68 f174_20 sh_77 rfl rfl ?_
      refine vLin 72 i174_71 rfl rfl ?_
      refine vIal 73 rfl i174_72 sh_80 rfl ?_
      refine vKb 75 i174_73 (by decide) rfl ?_
      refine vCne 88 78 rfl (show w32 62 = 62 from rfl) i174_75 rfl rfl ?_ ?_
      · refine vLln 89 i174_88 rfl rfl ?_
        refine vLl 91 i174_89 rfl rfl ?_
        refine vLcne 99 92 95 rfl rfl i174_91 rfl i174_92 rfl rfl ?_ ?_
        · refine vK 100 i174_99 rfl ?_
          exact vRi i174_100 m174 rfl
        · exact fun hD => tLc [] (xNdk [] rfl (by decide)) (xNdk [4, 0, 1, 2] rfl (by decide)) trivial (c_x8_passes_95 N  hd  s  hD)
      · refine vLln 79 i174_78 rfl rfl ?_
        refine vLl 81 i174_79 rfl rfl ?_
        refine vLcle 99 82 85 rfl rfl i174_81 rfl i174_82 rfl rfl ?_ ?_
        · refine vK 100 i174_99 rfl ?_
          exact vRi i174_100 m174 rfl
        · refine vGo 95 i174_85 rfl ?_
          exact fun hD => tLc [] (xNdk [] rfl (by decide)) (xNdk [4, 0, 1, 2] rfl (by decide)) trivial (c_x8_passes_95 N  hd  s  hD)
    · refine vLln 58 i174_57 rfl rfl ?_
      refine vLl 60 i174_58 rfl rfl ?_
      refine vLcge 99 61 64 rfl rfl i174_60 rfl i174_61 rfl rfl ?_ ?_
      · refine vK 100 i174_99 rfl ?_
        exact vRi i174_100 m174 rfl
      · refine vGo 95 i174_64 rfl ?_
        exact fun hD => tLc [] (xNdk [] rfl (by decide)) (xNdk [4, 0, 1, 2] rfl (by decide)) trivial (c_x8_passes_95 N  hd  s  hD)
  · refine vLl 21 i174_19 rfl rfl ?_
    refine vKl 22 0 i174_21 (by decide) rfl ?_
    refine vLcne 31 23 26 rfl (show w64 0 = 0 from rfl) i174_22 rfl i174_23 rfl rfl ?_ ?_
    · refine vLln 32 i174_31 rfl rfl ?_
      refine vLl 34 i174_32 rfl rfl ?_
      refine vLrem 35 rfl rfl i174_34 rfl ?_
      refine vKl 36 0 i174_35 (by decide) rfl ?_
      refine vLcne 44 37 40 rfl (show w64 0 = 0 from rfl) i174_36 rfl i174_37 rfl rfl ?_ ?_
      · refine vK 45 i174_44 rfl ?_
        exact vRi i174_45 m174 rfl
      · refine vK 41 i174_40 rfl ?_
        refine vGo 45 i174_41 rfl ?_
        exact vRi i174_45 m174 rfl
    · refine vKb 28 i174_26 (by decide) rfl ?_
      refine vGo 45 i174_28 rfl ?_
      exact vRi i174_45 m174 rfl
theorem f157_64 : xFld xg 157 64 = some (7, 17) := by decide +kernel
theorem f157_351 : xFld xg 157 351 = some (7, 38) := by decide +kernel
theorem f157_17 : xFld xg 157 17 = some (7, 2) := by decide +kernel
theorem i157_113 : xIns xg 157 113 = some (.iload 7) := by decide +kernel
theorem i157_115 : xIns xg 157 115 = some (.ifCond .eq 6) := by decide +kernel
theorem i157_121 : xIns xg 157 121 = some (.iinc 3 1) := by decide +kernel
theorem m157 : (xMet xg 157).2.2 = (8, (some .int)) := by decide +kernel
theorem i157_124 : xIns xg 157 124 = some (.aload_n 0) := by decide +kernel
theorem i157_125 : xIns xg 157 125 = some (.iload_n 1) := by decide +kernel
theorem i157_126 : xIns xg 157 126 = some (.iconst 1) := by decide +kernel
theorem i157_127 : xIns xg 157 127 = some (.iadd) := by decide +kernel
theorem i157_128 : xIns xg 157 128 = some (.iload_n 3) := by decide +kernel
theorem i157_129 : xIns xg 157 129 = some (.invokevirtual 342) := by decide +kernel
theorem m175 : (xMet xg 175).2.2 = (5, (some .int)) := by decide +kernel
theorem i157_132 : xIns xg 157 132 = some (.istore 4) := by decide +kernel
theorem i157_134 : xIns xg 157 134 = some (.goto (-100)) := by decide +kernel
theorem i157_118 : xIns xg 157 118 = some (.iload 7) := by decide +kernel
theorem i157_120 : xIns xg 157 120 = some (.ireturn) := by decide +kernel
theorem i157_93 : xIns xg 157 93 = some (.istore 7) := by decide +kernel
theorem i157_95 : xIns xg 157 95 = some (.iload 7) := by decide +kernel
theorem i157_97 : xIns xg 157 97 = some (.iconst 1) := by decide +kernel
theorem i157_98 : xIns xg 157 98 = some (.if_icmp .ne 15) := by decide +kernel
theorem i157_101 : xIns xg 157 101 = some (.aload_n 0) := by decide +kernel
theorem i157_102 : xIns xg 157 102 = some (.getfield 64) := by decide +kernel
theorem i157_105 : xIns xg 157 105 = some (.bipush 64) := by decide +kernel
theorem i157_107 : xIns xg 157 107 = some (.iload_n 1) := by decide +kernel
theorem i157_108 : xIns xg 157 108 = some (.imul) := by decide +kernel
theorem i157_109 : xIns xg 157 109 = some (.iload_n 2) := by decide +kernel
theorem i157_110 : xIns xg 157 110 = some (.iadd) := by decide +kernel
theorem i157_111 : xIns xg 157 111 = some (.iload_n 3) := by decide +kernel
theorem i157_112 : xIns xg 157 112 = some (.iastore) := by decide +kernel
theorem i157_34 : xIns xg 157 34 = some (.iload 4) := by decide +kernel
theorem i157_36 : xIns xg 157 36 = some (.iconst 1) := by decide +kernel
theorem i157_37 : xIns xg 157 37 = some (.if_icmp .ne 100) := by decide +kernel
theorem i157_137 : xIns xg 157 137 = some (.iload 4) := by decide +kernel
theorem i157_139 : xIns xg 157 139 = some (.ireturn) := by decide +kernel
theorem i157_40 : xIns xg 157 40 = some (.aload_n 0) := by decide +kernel
theorem i157_41 : xIns xg 157 41 = some (.iload_n 1) := by decide +kernel
theorem i157_42 : xIns xg 157 42 = some (.iconst 1) := by decide +kernel
theorem i157_43 : xIns xg 157 43 = some (.iadd) := by decide +kernel
theorem i157_44 : xIns xg 157 44 = some (.iload_n 3) := by decide +kernel
theorem i157_45 : xIns xg 157 45 = some (.invokevirtual 348) := by decide +kernel
theorem i157_48 : xIns xg 157 48 = some (.istore 4) := by decide +kernel
theorem i157_50 : xIns xg 157 50 = some (.iload 4) := by decide +kernel
theorem i157_52 : xIns xg 157 52 = some (.iconst 1) := by decide +kernel
theorem i157_53 : xIns xg 157 53 = some (.if_icmp .eq 6) := by decide +kernel
theorem i157_59 : xIns xg 157 59 = some (.aload_n 0) := by decide +kernel
theorem i157_60 : xIns xg 157 60 = some (.getfield 351) := by decide +kernel
theorem i157_63 : xIns xg 157 63 = some (.lstore 5) := by decide +kernel
theorem i157_65 : xIns xg 157 65 = some (.aload_n 0) := by decide +kernel
theorem i157_66 : xIns xg 157 66 = some (.getfield 17) := by decide +kernel
theorem i157_69 : xIns xg 157 69 = some (.iload_n 1) := by decide +kernel
theorem i157_70 : xIns xg 157 70 = some (.iaload) := by decide +kernel
theorem i157_71 : xIns xg 157 71 = some (.iconst 4) := by decide +kernel
theorem i157_72 : xIns xg 157 72 = some (.if_icmp .ne 13) := by decide +kernel
theorem i157_85 : xIns xg 157 85 = some (.aload_n 0) := by decide +kernel
theorem i157_86 : xIns xg 157 86 = some (.iload_n 1) := by decide +kernel
theorem i157_87 : xIns xg 157 87 = some (.iload_n 2) := by decide +kernel
theorem i157_88 : xIns xg 157 88 = some (.lload 5) := by decide +kernel
theorem i157_90 : xIns xg 157 90 = some (.invokevirtual 359) := by decide +kernel
theorem i157_75 : xIns xg 157 75 = some (.aload_n 0) := by decide +kernel
theorem i157_76 : xIns xg 157 76 = some (.iload_n 1) := by decide +kernel
theorem i157_77 : xIns xg 157 77 = some (.lload 5) := by decide +kernel
theorem i157_79 : xIns xg 157 79 = some (.invokevirtual 355) := by decide +kernel
theorem i157_82 : xIns xg 157 82 = some (.goto 11) := by decide +kernel
theorem i157_56 : xIns xg 157 56 = some (.iload 4) := by decide +kernel
theorem i157_58 : xIns xg 157 58 = some (.ireturn) := by decide +kernel
theorem i157_23 : xIns xg 157 23 = some (.istore_n 3) := by decide +kernel
theorem i157_24 : xIns xg 157 24 = some (.aload_n 0) := by decide +kernel
theorem i157_25 : xIns xg 157 25 = some (.iload_n 1) := by decide +kernel
theorem i157_26 : xIns xg 157 26 = some (.iconst 1) := by decide +kernel
theorem i157_27 : xIns xg 157 27 = some (.iadd) := by decide +kernel
theorem i157_28 : xIns xg 157 28 = some (.iload_n 3) := by decide +kernel
theorem i157_29 : xIns xg 157 29 = some (.invokevirtual 342) := by decide +kernel
theorem i157_32 : xIns xg 157 32 = some (.istore 4) := by decide +kernel
theorem i157_0 : xIns xg 157 0 = some (.iload_n 2) := by decide +kernel
theorem i157_1 : xIns xg 157 1 = some (.ifCond .ne 7) := by decide +kernel
theorem i157_8 : xIns xg 157 8 = some (.aload_n 0) := by decide +kernel
theorem i157_9 : xIns xg 157 9 = some (.getfield 64) := by decide +kernel
theorem i157_12 : xIns xg 157 12 = some (.bipush 64) := by decide +kernel
theorem i157_14 : xIns xg 157 14 = some (.iload_n 1) := by decide +kernel
theorem i157_15 : xIns xg 157 15 = some (.imul) := by decide +kernel
theorem i157_16 : xIns xg 157 16 = some (.iload_n 2) := by decide +kernel
theorem i157_17 : xIns xg 157 17 = some (.iadd) := by decide +kernel
theorem i157_18 : xIns xg 157 18 = some (.iconst 1) := by decide +kernel
theorem i157_19 : xIns xg 157 19 = some (.isub) := by decide +kernel
theorem i157_20 : xIns xg 157 20 = some (.iaload) := by decide +kernel
theorem i157_21 : xIns xg 157 21 = some (.iconst 1) := by decide +kernel
theorem i157_22 : xIns xg 157 22 = some (.iadd) := by decide +kernel
theorem i157_4 : xIns xg 157 4 = some (.iconst 0) := by decide +kernel
theorem i157_5 : xIns xg 157 5 = some (.goto 18) := by decide +kernel
def d_x8_keeps_113 (N : Nat) (r_place : St → Int → Int → Option Rs) (r_headAsked : St → Int → Int → Option Rs) (k34 : St → Int → Int → Int → Int → Option Rs) (s : St) (x1 : Int) (x2 : Int) (x3 : Int) (x7 : Int) : Option Rs :=
  (if (w32 x7) = 0 then bd (x3 + 1) fun v1 => bI (r_place s (x1 + 1) v1) fun s2 v3 => k34 s2 x1 x2 v1 v3 else some (s, x7))
set_option maxHeartbeats 4000000 in
set_option maxRecDepth 100000 in
theorem c_x8_keeps_113 {sc : xS} {d : Nat} {R : Rs} (N : Nat) (r_place : St → Int → Int → Option Rs) (r_headAsked : St → Int → Int → Option Rs) (e : Nat) (hr_place : ∀ d, e ≤ d → ∀ (s : St) (a0 a1 : Int) (R : Rs), r_place s a0 a1 = some R → vT sc d 175 0 [(0, .ref 77), (1, vi a0), (2, vi a1)] [] s (fun r => r = qI R)) (hr_headAsked : ∀ d, e ≤ d → ∀ (s : St) (a0 a1 : Int) (R : Rs), r_headAsked s a0 a1 = some R → vT sc d 140 0 [(0, .ref 77), (1, vi a0), (2, vi a1)] [] s (fun r => r = qI R)) (hd : e + 2 ≤ d) (k34 : St → Int → Int → Int → Int → Option Rs) (hk34 : ∀ (s : St) (x1 : Int) (x2 : Int) (x3 : Int) (x4 : Int), k34 s x1 x2 x3 x4 = some R → vT sc d 157 34 [(0, .ref 77), (1, vi x1), (2, vi x2), (3, vi x3), (4, vi x4)] [] s (fun r => r = qI R))  (s : St) (x1 : Int) (x2 : Int) (x3 : Int) (x7 : Int) : d_x8_keeps_113 N r_place r_headAsked k34 s x1 x2 x3 x7 = some R → vT sc d 157 113 [(0, .ref 77), (1, vi x1), (2, vi x2), (3, vi x3), (7, vi x7)] [] s (fun r => r = qI R) := by
  obtain ⟨d, rfl⟩ : ∃ d', d = d' + 1 := ⟨d - 1, by omega⟩
  unfold d_x8_keeps_113
  refine vLi 115 i157_113 rfl rfl ?_
  refine vZeq 121 118 rfl i157_115 rfl rfl ?_ ?_
  · refine vInc 124 (fun v1 => [(3, vi v1), (0, .ref 77), (1, vi x1), (2, vi x2), (7, vi x7)]) i157_121 m157 (by decide) rfl (fun _ => rfl) rfl (fun v1 => ?_)
    refine vLan 125 i157_124 rfl rfl ?_
    refine vLin 126 i157_125 rfl rfl ?_
    refine vK 127 i157_126 rfl ?_
    refine vIadd 128 i157_127 rfl ?_
    refine vLin 129 i157_128 rfl rfl ?_
    refine vCallI 132 [.ref 77, vi (x1 + 1), vi v1] [] [(0, .ref 77), (1, vi (x1 + 1)), (2, vi v1)] i157_129 rfl (xlk0 l157_342) (Or.inl rfl) m175 rfl rfl (Nat.le_of_ble_eq_true rfl) (Nat.le_of_ble_eq_true rfl) (Nat.le_of_ble_eq_true rfl) (xh0 sh_77 (by decide)) rfl rfl (hr_place d (by omega) s (x1 + 1) v1) (fun s2 v3 => ?_)
    refine vSi0 134 [(4, vi v3), (3, vi v1), (0, .ref 77), (1, vi x1), (2, vi x2), (7, vi x7)] i157_132 m157 (by decide) rfl rfl ?_
    refine vGo 34 i157_134 rfl ?_
    exact fun hD => tLc [(0, .ref 77), (1, vi x1), (2, vi x2), (3, vi v1), (4, vi v3)] (xNdk [0, 1, 2, 3, 4] rfl (by decide)) (xNdk [4, 3, 0, 1, 2, 7] rfl (by decide)) ⟨rfl, rfl, rfl, rfl, rfl, trivial⟩ (hk34 s2 x1 x2 v1 v3 hD)
  · refine vLi 120 i157_118 rfl rfl ?_
    exact vRi i157_120 m157 rfl
def d_x8_keeps_93 (N : Nat) (r_place : St → Int → Int → Option Rs) (r_headAsked : St → Int → Int → Option Rs) (k34 : St → Int → Int → Int → Int → Option Rs) (s : St) (x1 : Int) (x2 : Int) (x3 : Int) (z0 : Int) : Option Rs :=
  (if (w32 z0) = 1 then if 0 ≤ (w32 ((64 * x1) + x2)) ∧ (w32 ((64 * x1) + x2)) < ((12288 : Nat) : Int) then bd (up s 93 (Int.toNat (w32 ((64 * x1) + x2))) x3) fun s4 => d_x8_keeps_113 N r_place r_headAsked k34 s4 x1 x2 x3 z0 else none else d_x8_keeps_113 N r_place r_headAsked k34 s x1 x2 x3 z0)
set_option maxHeartbeats 4000000 in
set_option maxRecDepth 100000 in
theorem c_x8_keeps_93 {sc : xS} {d : Nat} {R : Rs} (N : Nat) (r_place : St → Int → Int → Option Rs) (r_headAsked : St → Int → Int → Option Rs) (e : Nat) (hr_place : ∀ d, e ≤ d → ∀ (s : St) (a0 a1 : Int) (R : Rs), r_place s a0 a1 = some R → vT sc d 175 0 [(0, .ref 77), (1, vi a0), (2, vi a1)] [] s (fun r => r = qI R)) (hr_headAsked : ∀ d, e ≤ d → ∀ (s : St) (a0 a1 : Int) (R : Rs), r_headAsked s a0 a1 = some R → vT sc d 140 0 [(0, .ref 77), (1, vi a0), (2, vi a1)] [] s (fun r => r = qI R)) (hd : e + 2 ≤ d) (k34 : St → Int → Int → Int → Int → Option Rs) (hk34 : ∀ (s : St) (x1 : Int) (x2 : Int) (x3 : Int) (x4 : Int), k34 s x1 x2 x3 x4 = some R → vT sc d 157 34 [(0, .ref 77), (1, vi x1), (2, vi x2), (3, vi x3), (4, vi x4)] [] s (fun r => r = qI R))  (s : St) (x1 : Int) (x2 : Int) (x3 : Int) (z0 : Int) : d_x8_keeps_93 N r_place r_headAsked k34 s x1 x2 x3 z0 = some R → vT sc d 157 93 [(0, .ref 77), (1, vi x1), (2, vi x2), (3, vi x3)] [vi z0] s (fun r => r = qI R) := by
  obtain ⟨d, rfl⟩ : ∃ d', d = d' + 1 := ⟨d - 1, by omega⟩
  unfold d_x8_keeps_93
  refine vSi0 95 [(7, vi z0), (0, .ref 77), (1, vi x1), (2, vi x2), (3, vi x3)] i157_93 m157 (by decide) rfl rfl ?_
  refine vLi 97 i157_95 rfl rfl ?_
  refine vK 98 i157_97 rfl ?_
  refine vCne 113 101 rfl (show w32 1 = 1 from rfl) i157_98 rfl rfl ?_ ?_
  · exact fun hD => tLc [(0, .ref 77), (1, vi x1), (2, vi x2), (3, vi x3), (7, vi z0)] (xNdk [0, 1, 2, 3, 7] rfl (by decide)) (xNdk [7, 0, 1, 2, 3] rfl (by decide)) ⟨rfl, rfl, rfl, rfl, rfl, trivial⟩ (c_x8_keeps_113 N r_place r_headAsked e hr_place hr_headAsked hd k34 hk34 s x1 x2 x3 z0 hD)
  · refine vLan 102 i157_101 rfl rfl ?_
    refine vGetC 105 i157_102 f157_64 sh_77 rfl rfl ?_
    refine vKb 107 i157_105 (by decide) rfl ?_
    refine vLin 108 i157_107 rfl rfl ?_
    refine vImul 109 i157_108 rfl ?_
    refine vLin 110 i157_109 rfl rfl ?_
    refine vIadd 111 i157_110 rfl ?_
    refine vLin 112 i157_111 rfl rfl ?_
    refine vIas 113 rfl i157_112 sh_93 rfl (fun s4 => ?_)
    exact fun hD => tLc [(0, .ref 77), (1, vi x1), (2, vi x2), (3, vi x3), (7, vi z0)] (xNdk [0, 1, 2, 3, 7] rfl (by decide)) (xNdk [7, 0, 1, 2, 3] rfl (by decide)) ⟨rfl, rfl, rfl, rfl, rfl, trivial⟩ (c_x8_keeps_113 N r_place r_headAsked e hr_place hr_headAsked hd k34 hk34 s4 x1 x2 x3 z0 hD)
def d_x8_keeps_34 (N : Nat) (r_place : St → Int → Int → Option Rs) (r_headAsked : St → Int → Int → Option Rs)  (k34 : St → Int → Int → Int → Int → Option Rs) (s : St) (x1 : Int) (x2 : Int) (x3 : Int) (x4 : Int) : Option Rs :=
  (if (w32 x4) = 1 then bI (r_headAsked s (x1 + 1) x3) fun s5 v6 => (if (w32 v6) = 1 then bd (s5 77 38) fun v7 => if 0 ≤ (w32 x1) ∧ (w32 x1) < ((192 : Nat) : Int) then (if (w32 (s5 79 (Int.toNat (w32 x1)))) = 4 then bI (d_x8_passes N  s5 x1 v7) fun s10 v11 => d_x8_keeps_93 N r_place r_headAsked k34 s10 x1 x2 x3 v11 else bI (d_x8_sieved N r_place r_headAsked s5 x1 x2 v7) fun s8 v9 => d_x8_keeps_93 N r_place r_headAsked k34 s8 x1 x2 x3 v9) else none else some (s5, v6)) else some (s, x4))
def d_x8_keeps_34L (N : Nat) (r_place : St → Int → Int → Option Rs) (r_headAsked : St → Int → Int → Option Rs)  : Nat → St → Int → Int → Int → Int → Option Rs
  | 0 => fun _ _ _ _ _ => none
  | n + 1 => d_x8_keeps_34 N r_place r_headAsked  (d_x8_keeps_34L N r_place r_headAsked  n)
set_option maxHeartbeats 4000000 in
set_option maxRecDepth 100000 in
theorem c_x8_keeps_34 {sc : xS} {d : Nat} {R : Rs} (N : Nat) (r_place : St → Int → Int → Option Rs) (r_headAsked : St → Int → Int → Option Rs) (e : Nat) (hr_place : ∀ d, e ≤ d → ∀ (s : St) (a0 a1 : Int) (R : Rs), r_place s a0 a1 = some R → vT sc d 175 0 [(0, .ref 77), (1, vi a0), (2, vi a1)] [] s (fun r => r = qI R)) (hr_headAsked : ∀ d, e ≤ d → ∀ (s : St) (a0 a1 : Int) (R : Rs), r_headAsked s a0 a1 = some R → vT sc d 140 0 [(0, .ref 77), (1, vi a0), (2, vi a1)] [] s (fun r => r = qI R)) (hd : e + 2 ≤ d)   (k34 : St → Int → Int → Int → Int → Option Rs) (hk34 : ∀ (s : St) (x1 : Int) (x2 : Int) (x3 : Int) (x4 : Int), k34 s x1 x2 x3 x4 = some R → vT sc d 157 34 [(0, .ref 77), (1, vi x1), (2, vi x2), (3, vi x3), (4, vi x4)] [] s (fun r => r = qI R)) (s : St) (x1 : Int) (x2 : Int) (x3 : Int) (x4 : Int) : d_x8_keeps_34 N r_place r_headAsked  k34 s x1 x2 x3 x4 = some R → vT sc d 157 34 [(0, .ref 77), (1, vi x1), (2, vi x2), (3, vi x3), (4, vi x4)] [] s (fun r => r = qI R) := by
  obtain ⟨d, rfl⟩ : ∃ d', d = d' + 1 := ⟨d - 1, by omega⟩
  unfold d_x8_keeps_34
  refine vLi 36 i157_34 rfl rfl ?_
  refine vK 37 i157_36 rfl ?_
  refine vCne 137 40 rfl (show w32 1 = 1 from rfl) i157_37 rfl rfl ?_ ?_
  · refine vLi 139 i157_137 rfl rfl ?_
    exact vRi i157_139 m157 rfl
  · refine vLan 41 i157_40 rfl rfl ?_
    refine vLin 42 i157_41 rfl rfl ?_
    refine vK 43 i157_42 rfl ?_
    refine vIadd 44 i157_43 rfl ?_
    refine vLin 45 i157_44 rfl rfl ?_
    refine vCallI 48 [.ref 77, vi (x1 + 1), vi x3] [] [(0, .ref 77), (1, vi (x1 + 1)), (2, vi x3)] i157_45 rfl (xlk0 l157_348) (Or.inl rfl) m140 rfl rfl (Nat.le_of_ble_eq_true rfl) (Nat.le_of_ble_eq_true rfl) (Nat.le_of_ble_eq_true rfl) (xh0 sh_77 (by decide)) rfl rfl (hr_headAsked d (by omega) s (x1 + 1) x3) (fun s5 v6 => ?_)
    refine vSi0 50 [(4, vi v6), (0, .ref 77), (1, vi x1), (2, vi x2), (3, vi x3)] i157_48 m157 (by decide) rfl rfl ?_
    refine vLi 52 i157_50 rfl rfl ?_
    refine vK 53 i157_52 rfl ?_
    refine vCeq 59 56 rfl (show w32 1 = 1 from rfl) i157_53 rfl rfl ?_ ?_
    · refine vLan 60 i157_59 rfl rfl ?_
      refine vGetL 63 i157_60 f157_351 sh_77 rfl rfl ?_
      refine vSl 65 (fun v7 => [(5, vl v7), (4, vi v6), (0, .ref 77), (1, vi x1), (2, vi x2), (3, vi x3)]) i157_63 m157 (by decide) (fun v7 => (rfl : xst2 [(4, vi v6), (0, .ref 77), (1, vi x1), (2, vi x2), (3, vi x3)] 5 (vl v7) = [(5, vl v7), (4, vi v6), (0, .ref 77), (1, vi x1), (2, vi x2), (3, vi x3)])) rfl (fun v7 => ?_)
      refine vLan 66 i157_65 rfl rfl ?_
      refine vGetC 69 i157_66 f157_17 sh_77 rfl rfl ?_
      refine vLin 70 i157_69 rfl rfl ?_
      refine vIal 71 rfl i157_70 sh_79 rfl ?_
      refine vK 72 i157_71 rfl ?_
      refine vCne 85 75 rfl (show w32 4 = 4 from rfl) i157_72 rfl rfl ?_ ?_
      · refine vLan 86 i157_85 rfl rfl ?_
        refine vLin 87 i157_86 rfl rfl ?_
        refine vLin 88 i157_87 rfl rfl ?_
        refine vLl 90 i157_88 rfl rfl ?_
        refine vCallI 93 [.ref 77, vi x1, vi x2, vl v7] [] [(0, .ref 77), (1, vi x1), (2, vi x2), (3, vl v7)] i157_90 rfl (xlk0 l157_359) (Or.inl rfl) m184 rfl rfl (Nat.le_of_ble_eq_true rfl) (Nat.le_of_ble_eq_true rfl) (Nat.le_of_ble_eq_true rfl) (xh0 sh_77 (by decide)) rfl rfl (fun R1 => c_x8_sieved N r_place r_headAsked e hr_place hr_headAsked (by omega) s5 x1 x2 v7) (fun s8 v9 => ?_)
        exact fun hD => tLc [(0, .ref 77), (1, vi x1), (2, vi x2), (3, vi x3)] (xNdk [0, 1, 2, 3] rfl (by decide)) (xNdk [5, 4, 0, 1, 2, 3] rfl (by decide)) ⟨rfl, rfl, rfl, rfl, trivial⟩ (c_x8_keeps_93 N r_place r_headAsked e hr_place hr_headAsked hd k34 hk34 s8 x1 x2 x3 v9 hD)
      · refine vLan 76 i157_75 rfl rfl ?_
        refine vLin 77 i157_76 rfl rfl ?_
        refine vLl 79 i157_77 rfl rfl ?_
        refine vCallI 82 [.ref 77, vi x1, vl v7] [] [(0, .ref 77), (1, vi x1), (2, vl v7)] i157_79 rfl (xlk0 l157_355) (Or.inl rfl) m174 rfl rfl (Nat.le_of_ble_eq_true rfl) (Nat.le_of_ble_eq_true rfl) (Nat.le_of_ble_eq_true rfl) (xh0 sh_77 (by decide)) rfl rfl (fun R1 => c_x8_passes N   (by omega) s5 x1 v7) (fun s10 v11 => ?_)
        refine vGo 93 i157_82 rfl ?_
        exact fun hD => tLc [(0, .ref 77), (1, vi x1), (2, vi x2), (3, vi x3)] (xNdk [0, 1, 2, 3] rfl (by decide)) (xNdk [5, 4, 0, 1, 2, 3] rfl (by decide)) ⟨rfl, rfl, rfl, rfl, trivial⟩ (c_x8_keeps_93 N r_place r_headAsked e hr_place hr_headAsked hd k34 hk34 s10 x1 x2 x3 v11 hD)
    · refine vLi 58 i157_56 rfl rfl ?_
      exact vRi i157_58 m157 rfl
theorem c_x8_keeps_34L {sc : xS} {d : Nat} {R : Rs} (N : Nat) (r_place : St → Int → Int → Option Rs) (r_headAsked : St → Int → Int → Option Rs) (e : Nat) (hr_place : ∀ d, e ≤ d → ∀ (s : St) (a0 a1 : Int) (R : Rs), r_place s a0 a1 = some R → vT sc d 175 0 [(0, .ref 77), (1, vi a0), (2, vi a1)] [] s (fun r => r = qI R)) (hr_headAsked : ∀ d, e ≤ d → ∀ (s : St) (a0 a1 : Int) (R : Rs), r_headAsked s a0 a1 = some R → vT sc d 140 0 [(0, .ref 77), (1, vi a0), (2, vi a1)] [] s (fun r => r = qI R)) (hd : e + 2 ≤ d)   : ∀ (n : Nat) (s : St) (x1 : Int) (x2 : Int) (x3 : Int) (x4 : Int), d_x8_keeps_34L N r_place r_headAsked  n s x1 x2 x3 x4 = some R → vT sc d 157 34 [(0, .ref 77), (1, vi x1), (2, vi x2), (3, vi x3), (4, vi x4)] [] s (fun r => r = qI R) := by
  intro n
  induction n with
  | zero => intro s x1 x2 x3 x4 hD; cases hD
  | succ n ih => intro s x1 x2 x3 x4 hD; exact c_x8_keeps_34 N r_place r_headAsked e hr_place hr_headAsked hd  _ ih s x1 x2 x3 x4 hD
def d_x8_keeps_23 (N : Nat) (r_place : St → Int → Int → Option Rs) (r_headAsked : St → Int → Int → Option Rs)  (s : St) (x1 : Int) (x2 : Int) (z0 : Int) : Option Rs :=
  bI (r_place s (x1 + 1) z0) fun s12 v13 => d_x8_keeps_34L N r_place r_headAsked  N s12 x1 x2 z0 v13
set_option maxHeartbeats 4000000 in
set_option maxRecDepth 100000 in
theorem c_x8_keeps_23 {sc : xS} {d : Nat} {R : Rs} (N : Nat) (r_place : St → Int → Int → Option Rs) (r_headAsked : St → Int → Int → Option Rs) (e : Nat) (hr_place : ∀ d, e ≤ d → ∀ (s : St) (a0 a1 : Int) (R : Rs), r_place s a0 a1 = some R → vT sc d 175 0 [(0, .ref 77), (1, vi a0), (2, vi a1)] [] s (fun r => r = qI R)) (hr_headAsked : ∀ d, e ≤ d → ∀ (s : St) (a0 a1 : Int) (R : Rs), r_headAsked s a0 a1 = some R → vT sc d 140 0 [(0, .ref 77), (1, vi a0), (2, vi a1)] [] s (fun r => r = qI R)) (hd : e + 2 ≤ d)   (s : St) (x1 : Int) (x2 : Int) (z0 : Int) : d_x8_keeps_23 N r_place r_headAsked  s x1 x2 z0 = some R → vT sc d 157 23 [(0, .ref 77), (1, vi x1), (2, vi x2)] [vi z0] s (fun r => r = qI R) := by
  obtain ⟨d, rfl⟩ : ∃ d', d = d' + 1 := ⟨d - 1, by omega⟩
  unfold d_x8_keeps_23
  refine vSin0 24 [(3, vi z0), (0, .ref 77), (1, vi x1), (2, vi x2)] i157_23 m157 (by decide) rfl rfl ?_
  refine vLan 25 i157_24 rfl rfl ?_
  refine vLin 26 i157_25 rfl rfl ?_
  refine vK 27 i157_26 rfl ?_
  refine vIadd 28 i157_27 rfl ?_
  refine vLin 29 i157_28 rfl rfl ?_
  refine vCallI 32 [.ref 77, vi (x1 + 1), vi z0] [] [(0, .ref 77), (1, vi (x1 + 1)), (2, vi z0)] i157_29 rfl (xlk0 l157_342) (Or.inl rfl) m175 rfl rfl (Nat.le_of_ble_eq_true rfl) (Nat.le_of_ble_eq_true rfl) (Nat.le_of_ble_eq_true rfl) (xh0 sh_77 (by decide)) rfl rfl (hr_place d (by omega) s (x1 + 1) z0) (fun s12 v13 => ?_)
  refine vSi0 34 [(4, vi v13), (3, vi z0), (0, .ref 77), (1, vi x1), (2, vi x2)] i157_32 m157 (by decide) rfl rfl ?_
  exact fun hD => tLc [(0, .ref 77), (1, vi x1), (2, vi x2), (3, vi z0), (4, vi v13)] (xNdk [0, 1, 2, 3, 4] rfl (by decide)) (xNdk [4, 3, 0, 1, 2] rfl (by decide)) ⟨rfl, rfl, rfl, rfl, rfl, trivial⟩ (c_x8_keeps_34L N r_place r_headAsked e hr_place hr_headAsked hd  N s12 x1 x2 z0 v13 hD)
def d_x8_keeps (N : Nat) (r_place : St → Int → Int → Option Rs) (r_headAsked : St → Int → Int → Option Rs)  (s : St) (a0 : Int) (a1 : Int) : Option Rs :=
  (if (w32 a1) = 0 then d_x8_keeps_23 N r_place r_headAsked  s a0 a1 0 else if 0 ≤ (w32 (((64 * a0) + a1) - 1)) ∧ (w32 (((64 * a0) + a1) - 1)) < ((12288 : Nat) : Int) then d_x8_keeps_23 N r_place r_headAsked  s a0 a1 ((s 93 (Int.toNat (w32 (((64 * a0) + a1) - 1)))) + 1) else none)
set_option maxHeartbeats 4000000 in
set_option maxRecDepth 100000 in
theorem c_x8_keeps {sc : xS} {d : Nat} {R : Rs} (N : Nat) (r_place : St → Int → Int → Option Rs) (r_headAsked : St → Int → Int → Option Rs) (e : Nat) (hr_place : ∀ d, e ≤ d → ∀ (s : St) (a0 a1 : Int) (R : Rs), r_place s a0 a1 = some R → vT sc d 175 0 [(0, .ref 77), (1, vi a0), (2, vi a1)] [] s (fun r => r = qI R)) (hr_headAsked : ∀ d, e ≤ d → ∀ (s : St) (a0 a1 : Int) (R : Rs), r_headAsked s a0 a1 = some R → vT sc d 140 0 [(0, .ref 77), (1, vi a0), (2, vi a1)] [] s (fun r => r = qI R)) (hd : e + 2 ≤ d)   (s : St) (a0 : Int) (a1 : Int) : d_x8_keeps N r_place r_headAsked  s a0 a1 = some R → vT sc d 157 0 [(0, .ref 77), (1, vi a0), (2, vi a1)] [] s (fun r => r = qI R) := by
  obtain ⟨d, rfl⟩ : ∃ d', d = d' + 1 := ⟨d - 1, by omega⟩
  unfold d_x8_keeps
  refine vLin 1 i157_0 rfl rfl ?_
  refine vZne 8 4 rfl i157_1 rfl rfl ?_ ?_
  · refine vLan 9 i157_8 rfl rfl ?_
    refine vGetC 12 i157_9 f157_64 sh_77 rfl rfl ?_
    refine vKb 14 i157_12 (by decide) rfl ?_
    refine vLin 15 i157_14 rfl rfl ?_
    refine vImul 16 i157_15 rfl ?_
    refine vLin 17 i157_16 rfl rfl ?_
    refine vIadd 18 i157_17 rfl ?_
    refine vK 19 i157_18 rfl ?_
    refine vIsub 20 i157_19 rfl ?_
    refine vIal 21 rfl i157_20 sh_93 rfl ?_
    refine vK 22 i157_21 rfl ?_
    refine vIadd 23 i157_22 rfl ?_
    exact fun hD => c_x8_keeps_23 N r_place r_headAsked e hr_place hr_headAsked hd  s a0 a1 ((s 93 (Int.toNat (w32 (((64 * a0) + a1) - 1)))) + 1) hD
  · refine vK 5 i157_4 rfl ?_
    refine vGo 23 i157_5 rfl ?_
    exact fun hD => c_x8_keeps_23 N r_place r_headAsked e hr_place hr_headAsked hd  s a0 a1 0 hD
theorem f165_52 : xFld xg 165 52 = some (7, 13) := by decide +kernel
theorem f165_55 : xFld xg 165 55 = some (7, 14) := by decide +kernel
theorem f165_64 : xFld xg 165 64 = some (7, 17) := by decide +kernel
theorem f165_351 : xFld xg 165 351 = some (7, 38) := by decide +kernel
theorem i165_239 : xIns xg 165 239 = some (.iastore) := by decide +kernel
theorem i165_240 : xIns xg 165 240 = some (.iconst 1) := by decide +kernel
theorem i165_241 : xIns xg 165 241 = some (.ireturn) := by decide +kernel
theorem m165 : (xMet xg 165).2.2 = (12, (some .int)) := by decide +kernel
theorem i165_219 : xIns xg 165 219 = some (.iastore) := by decide +kernel
theorem i165_220 : xIns xg 165 220 = some (.aload_n 0) := by decide +kernel
theorem i165_221 : xIns xg 165 221 = some (.getfield 55) := by decide +kernel
theorem i165_224 : xIns xg 165 224 = some (.iload_n 1) := by decide +kernel
theorem i165_225 : xIns xg 165 225 = some (.iload 8) := by decide +kernel
theorem i165_227 : xIns xg 165 227 = some (.ifCond .ne 8) := by decide +kernel
theorem i165_235 : xIns xg 165 235 = some (.iload 4) := by decide +kernel
theorem i165_237 : xIns xg 165 237 = some (.iconst 1) := by decide +kernel
theorem i165_238 : xIns xg 165 238 = some (.iadd) := by decide +kernel
theorem i165_230 : xIns xg 165 230 = some (.iload 4) := by decide +kernel
theorem i165_232 : xIns xg 165 232 = some (.goto 7) := by decide +kernel
theorem i165_200 : xIns xg 165 200 = some (.iastore) := by decide +kernel
theorem i165_201 : xIns xg 165 201 = some (.aload_n 0) := by decide +kernel
theorem i165_202 : xIns xg 165 202 = some (.getfield 52) := by decide +kernel
theorem i165_205 : xIns xg 165 205 = some (.iload_n 1) := by decide +kernel
theorem i165_206 : xIns xg 165 206 = some (.iload 8) := by decide +kernel
theorem i165_208 : xIns xg 165 208 = some (.iconst 1) := by decide +kernel
theorem i165_209 : xIns xg 165 209 = some (.if_icmp .ne 7) := by decide +kernel
theorem i165_216 : xIns xg 165 216 = some (.iload_n 3) := by decide +kernel
theorem i165_217 : xIns xg 165 217 = some (.iconst 1) := by decide +kernel
theorem i165_218 : xIns xg 165 218 = some (.iadd) := by decide +kernel
theorem i165_212 : xIns xg 165 212 = some (.iload_n 3) := by decide +kernel
theorem i165_213 : xIns xg 165 213 = some (.goto 6) := by decide +kernel
theorem i165_172 : xIns xg 165 172 = some (.aload_n 0) := by decide +kernel
theorem i165_173 : xIns xg 165 173 = some (.getfield 64) := by decide +kernel
theorem i165_176 : xIns xg 165 176 = some (.bipush 64) := by decide +kernel
theorem i165_178 : xIns xg 165 178 = some (.iload_n 1) := by decide +kernel
theorem i165_179 : xIns xg 165 179 = some (.imul) := by decide +kernel
theorem i165_180 : xIns xg 165 180 = some (.iload_n 2) := by decide +kernel
theorem i165_181 : xIns xg 165 181 = some (.iadd) := by decide +kernel
theorem i165_182 : xIns xg 165 182 = some (.iload 8) := by decide +kernel
theorem i165_184 : xIns xg 165 184 = some (.iconst 1) := by decide +kernel
theorem i165_185 : xIns xg 165 185 = some (.if_icmp .ne 12) := by decide +kernel
theorem i165_197 : xIns xg 165 197 = some (.iconst 2) := by decide +kernel
theorem i165_198 : xIns xg 165 198 = some (.iload_n 3) := by decide +kernel
theorem i165_199 : xIns xg 165 199 = some (.imul) := by decide +kernel
theorem i165_188 : xIns xg 165 188 = some (.iconst 2) := by decide +kernel
theorem i165_189 : xIns xg 165 189 = some (.iload 4) := by decide +kernel
theorem i165_191 : xIns xg 165 191 = some (.imul) := by decide +kernel
theorem i165_192 : xIns xg 165 192 = some (.iconst 1) := by decide +kernel
theorem i165_193 : xIns xg 165 193 = some (.iadd) := by decide +kernel
theorem i165_194 : xIns xg 165 194 = some (.goto 6) := by decide +kernel
theorem i165_170 : xIns xg 165 170 = some (.istore 8) := by decide +kernel
theorem i165_89 : xIns xg 165 89 = some (.istore 8) := by decide +kernel
theorem i165_91 : xIns xg 165 91 = some (.iload 8) := by decide +kernel
theorem i165_93 : xIns xg 165 93 = some (.iconst 2) := by decide +kernel
theorem i165_94 : xIns xg 165 94 = some (.if_icmp .ne 78) := by decide +kernel
theorem i165_97 : xIns xg 165 97 = some (.aload_n 0) := by decide +kernel
theorem i165_98 : xIns xg 165 98 = some (.iload_n 1) := by decide +kernel
theorem i165_99 : xIns xg 165 99 = some (.iconst 1) := by decide +kernel
theorem i165_100 : xIns xg 165 100 = some (.iadd) := by decide +kernel
theorem i165_101 : xIns xg 165 101 = some (.iload_n 3) := by decide +kernel
theorem i165_102 : xIns xg 165 102 = some (.invokevirtual 348) := by decide +kernel
theorem i165_105 : xIns xg 165 105 = some (.istore 9) := by decide +kernel
theorem i165_107 : xIns xg 165 107 = some (.iload 9) := by decide +kernel
theorem i165_109 : xIns xg 165 109 = some (.iconst 1) := by decide +kernel
theorem i165_110 : xIns xg 165 110 = some (.if_icmp .eq 6) := by decide +kernel
theorem i165_116 : xIns xg 165 116 = some (.aload_n 0) := by decide +kernel
theorem i165_117 : xIns xg 165 117 = some (.getfield 351) := by decide +kernel
theorem i165_120 : xIns xg 165 120 = some (.lstore 10) := by decide +kernel
theorem i165_122 : xIns xg 165 122 = some (.aload_n 0) := by decide +kernel
theorem i165_123 : xIns xg 165 123 = some (.iload 5) := by decide +kernel
theorem i165_125 : xIns xg 165 125 = some (.iload 4) := by decide +kernel
theorem i165_127 : xIns xg 165 127 = some (.invokevirtual 348) := by decide +kernel
theorem i165_130 : xIns xg 165 130 = some (.istore 9) := by decide +kernel
theorem i165_132 : xIns xg 165 132 = some (.iload 9) := by decide +kernel
theorem i165_134 : xIns xg 165 134 = some (.iconst 1) := by decide +kernel
theorem i165_135 : xIns xg 165 135 = some (.if_icmp .eq 6) := by decide +kernel
theorem i165_141 : xIns xg 165 141 = some (.lload 10) := by decide +kernel
theorem i165_143 : xIns xg 165 143 = some (.aload_n 0) := by decide +kernel
theorem i165_144 : xIns xg 165 144 = some (.getfield 351) := by decide +kernel
theorem i165_147 : xIns xg 165 147 = some (.lcmp) := by decide +kernel
theorem i165_148 : xIns xg 165 148 = some (.ifCond .ge 7) := by decide +kernel
theorem i165_155 : xIns xg 165 155 = some (.lload 10) := by decide +kernel
theorem i165_157 : xIns xg 165 157 = some (.aload_n 0) := by decide +kernel
theorem i165_158 : xIns xg 165 158 = some (.getfield 351) := by decide +kernel
theorem i165_161 : xIns xg 165 161 = some (.lcmp) := by decide +kernel
theorem i165_162 : xIns xg 165 162 = some (.ifCond .le 7) := by decide +kernel
theorem i165_169 : xIns xg 165 169 = some (.iconst 2) := by decide +kernel
theorem i165_165 : xIns xg 165 165 = some (.iconst 1) := by decide +kernel
theorem i165_166 : xIns xg 165 166 = some (.goto 4) := by decide +kernel
theorem i165_151 : xIns xg 165 151 = some (.iconst 0) := by decide +kernel
theorem i165_152 : xIns xg 165 152 = some (.goto 18) := by decide +kernel
theorem i165_138 : xIns xg 165 138 = some (.iload 9) := by decide +kernel
theorem i165_140 : xIns xg 165 140 = some (.ireturn) := by decide +kernel
theorem i165_113 : xIns xg 165 113 = some (.iload 9) := by decide +kernel
theorem i165_115 : xIns xg 165 115 = some (.ireturn) := by decide +kernel
theorem i165_70 : xIns xg 165 70 = some (.iload 7) := by decide +kernel
theorem i165_72 : xIns xg 165 72 = some (.ifCond .ne 7) := by decide +kernel
theorem i165_79 : xIns xg 165 79 = some (.iload 6) := by decide +kernel
theorem i165_81 : xIns xg 165 81 = some (.ifCond .ne 7) := by decide +kernel
theorem i165_88 : xIns xg 165 88 = some (.iconst 2) := by decide +kernel
theorem i165_84 : xIns xg 165 84 = some (.iconst 1) := by decide +kernel
theorem i165_85 : xIns xg 165 85 = some (.goto 4) := by decide +kernel
theorem i165_75 : xIns xg 165 75 = some (.iconst 0) := by decide +kernel
theorem i165_76 : xIns xg 165 76 = some (.goto 13) := by decide +kernel
theorem i165_0 : xIns xg 165 0 = some (.aload_n 0) := by decide +kernel
theorem i165_1 : xIns xg 165 1 = some (.getfield 52) := by decide +kernel
theorem i165_4 : xIns xg 165 4 = some (.iload_n 1) := by decide +kernel
theorem i165_5 : xIns xg 165 5 = some (.iaload) := by decide +kernel
theorem i165_6 : xIns xg 165 6 = some (.istore_n 3) := by decide +kernel
theorem i165_7 : xIns xg 165 7 = some (.aload_n 0) := by decide +kernel
theorem i165_8 : xIns xg 165 8 = some (.getfield 55) := by decide +kernel
theorem i165_11 : xIns xg 165 11 = some (.iload_n 1) := by decide +kernel
theorem i165_12 : xIns xg 165 12 = some (.iaload) := by decide +kernel
theorem i165_13 : xIns xg 165 13 = some (.istore 4) := by decide +kernel
theorem i165_15 : xIns xg 165 15 = some (.aload_n 0) := by decide +kernel
theorem i165_16 : xIns xg 165 16 = some (.iload_n 1) := by decide +kernel
theorem i165_17 : xIns xg 165 17 = some (.invokevirtual 345) := by decide +kernel
theorem i165_20 : xIns xg 165 20 = some (.istore 5) := by decide +kernel
theorem i165_22 : xIns xg 165 22 = some (.aload_n 0) := by decide +kernel
theorem i165_23 : xIns xg 165 23 = some (.iload_n 1) := by decide +kernel
theorem i165_24 : xIns xg 165 24 = some (.iconst 1) := by decide +kernel
theorem i165_25 : xIns xg 165 25 = some (.iadd) := by decide +kernel
theorem i165_26 : xIns xg 165 26 = some (.iload_n 3) := by decide +kernel
theorem i165_27 : xIns xg 165 27 = some (.invokevirtual 342) := by decide +kernel
theorem i165_30 : xIns xg 165 30 = some (.istore 6) := by decide +kernel
theorem i165_32 : xIns xg 165 32 = some (.iload 6) := by decide +kernel
theorem i165_34 : xIns xg 165 34 = some (.ifCond .ge 6) := by decide +kernel
theorem i165_40 : xIns xg 165 40 = some (.aload_n 0) := by decide +kernel
theorem i165_41 : xIns xg 165 41 = some (.iload 5) := by decide +kernel
theorem i165_43 : xIns xg 165 43 = some (.iload 4) := by decide +kernel
theorem i165_45 : xIns xg 165 45 = some (.invokevirtual 342) := by decide +kernel
theorem i165_48 : xIns xg 165 48 = some (.istore 7) := by decide +kernel
theorem i165_50 : xIns xg 165 50 = some (.iload 7) := by decide +kernel
theorem i165_52 : xIns xg 165 52 = some (.ifCond .ge 6) := by decide +kernel
theorem i165_58 : xIns xg 165 58 = some (.iload 6) := by decide +kernel
theorem i165_60 : xIns xg 165 60 = some (.ifCond .ne 10) := by decide +kernel
theorem i165_63 : xIns xg 165 63 = some (.iload 7) := by decide +kernel
theorem i165_65 : xIns xg 165 65 = some (.ifCond .ne 5) := by decide +kernel
theorem i165_68 : xIns xg 165 68 = some (.iconst 0) := by decide +kernel
theorem i165_69 : xIns xg 165 69 = some (.ireturn) := by decide +kernel
theorem i165_55 : xIns xg 165 55 = some (.iload 7) := by decide +kernel
theorem i165_57 : xIns xg 165 57 = some (.ireturn) := by decide +kernel
theorem i165_37 : xIns xg 165 37 = some (.iload 6) := by decide +kernel
theorem i165_39 : xIns xg 165 39 = some (.ireturn) := by decide +kernel
def d_x8_merges_239 (N : Nat) (r_place : St → Int → Int → Option Rs) (r_headAsked : St → Int → Int → Option Rs)  (s : St) (z0 : Int) (z1 : Int) : Option Rs :=
  if 0 ≤ (w32 z1) ∧ (w32 z1) < ((192 : Nat) : Int) then bd (up s 90 (Int.toNat (w32 z1)) z0) fun s1 => some (s1, 1) else none
set_option maxHeartbeats 4000000 in
set_option maxRecDepth 100000 in
theorem c_x8_merges_239 {sc : xS} {d : Nat} {R : Rs} (N : Nat) (r_place : St → Int → Int → Option Rs) (r_headAsked : St → Int → Int → Option Rs) (e : Nat) (hr_place : ∀ d, e ≤ d → ∀ (s : St) (a0 a1 : Int) (R : Rs), r_place s a0 a1 = some R → vT sc d 175 0 [(0, .ref 77), (1, vi a0), (2, vi a1)] [] s (fun r => r = qI R)) (hr_headAsked : ∀ d, e ≤ d → ∀ (s : St) (a0 a1 : Int) (R : Rs), r_headAsked s a0 a1 = some R → vT sc d 140 0 [(0, .ref 77), (1, vi a0), (2, vi a1)] [] s (fun r => r = qI R)) (hd : e + 1 ≤ d)   (s : St) (z0 : Int) (z1 : Int) : d_x8_merges_239 N r_place r_headAsked  s z0 z1 = some R → vT sc d 165 239 [] [vi z0, vi z1, .ref 90] s (fun r => r = qI R) := by
  obtain ⟨d, rfl⟩ : ∃ d', d = d' + 1 := ⟨d - 1, by omega⟩
  unfold d_x8_merges_239
  refine vIas 240 rfl i165_239 sh_90 rfl (fun s1 => ?_)
  refine vK 241 i165_240 rfl ?_
  exact vRi i165_241 m165 rfl
def d_x8_merges_219 (N : Nat) (r_place : St → Int → Int → Option Rs) (r_headAsked : St → Int → Int → Option Rs)  (s : St) (x1 : Int) (x4 : Int) (x8 : Int) (z0 : Int) (z1 : Int) : Option Rs :=
  if 0 ≤ (w32 z1) ∧ (w32 z1) < ((192 : Nat) : Int) then bd (up s 89 (Int.toNat (w32 z1)) z0) fun s2 => (if (w32 x8) = 0 then d_x8_merges_239 N r_place r_headAsked  s2 x4 x1 else d_x8_merges_239 N r_place r_headAsked  s2 (x4 + 1) x1) else none
set_option maxHeartbeats 4000000 in
set_option maxRecDepth 100000 in
theorem c_x8_merges_219 {sc : xS} {d : Nat} {R : Rs} (N : Nat) (r_place : St → Int → Int → Option Rs) (r_headAsked : St → Int → Int → Option Rs) (e : Nat) (hr_place : ∀ d, e ≤ d → ∀ (s : St) (a0 a1 : Int) (R : Rs), r_place s a0 a1 = some R → vT sc d 175 0 [(0, .ref 77), (1, vi a0), (2, vi a1)] [] s (fun r => r = qI R)) (hr_headAsked : ∀ d, e ≤ d → ∀ (s : St) (a0 a1 : Int) (R : Rs), r_headAsked s a0 a1 = some R → vT sc d 140 0 [(0, .ref 77), (1, vi a0), (2, vi a1)] [] s (fun r => r = qI R)) (hd : e + 1 ≤ d)   (s : St) (x1 : Int) (x4 : Int) (x8 : Int) (z0 : Int) (z1 : Int) : d_x8_merges_219 N r_place r_headAsked  s x1 x4 x8 z0 z1 = some R → vT sc d 165 219 [(0, .ref 77), (1, vi x1), (4, vi x4), (8, vi x8)] [vi z0, vi z1, .ref 89] s (fun r => r = qI R) := by
  obtain ⟨d, rfl⟩ : ∃ d', d = d' + 1 := ⟨d - 1, by omega⟩
  unfold d_x8_merges_219
  refine vIas 220 rfl i165_219 sh_89 rfl (fun s2 => ?_)
  refine vLan 221 i165_220 rfl rfl ?_
  refine vGetC 224 i165_221 f165_55 sh_77 rfl rfl ?_
  refine vLin 225 i165_224 rfl rfl ?_
  refine vLi 227 i165_225 rfl rfl ?_
  refine vZne 235 230 rfl i165_227 rfl rfl ?_ ?_
  · refine vLi 237 i165_235 rfl rfl ?_
    refine vK 238 i165_237 rfl ?_
    refine vIadd 239 i165_238 rfl ?_
    exact fun hD => tLc [] (xNdk [] rfl (by decide)) (xNdk [0, 1, 4, 8] rfl (by decide)) trivial (c_x8_merges_239 N r_place r_headAsked e hr_place hr_headAsked hd  s2 (x4 + 1) x1 hD)
  · refine vLi 232 i165_230 rfl rfl ?_
    refine vGo 239 i165_232 rfl ?_
    exact fun hD => tLc [] (xNdk [] rfl (by decide)) (xNdk [0, 1, 4, 8] rfl (by decide)) trivial (c_x8_merges_239 N r_place r_headAsked e hr_place hr_headAsked hd  s2 x4 x1 hD)
def d_x8_merges_200 (N : Nat) (r_place : St → Int → Int → Option Rs) (r_headAsked : St → Int → Int → Option Rs)  (s : St) (x1 : Int) (x3 : Int) (x4 : Int) (x8 : Int) (z0 : Int) (z1 : Int) : Option Rs :=
  if 0 ≤ (w32 z1) ∧ (w32 z1) < ((12288 : Nat) : Int) then bd (up s 93 (Int.toNat (w32 z1)) z0) fun s3 => (if (w32 x8) = 1 then d_x8_merges_219 N r_place r_headAsked  s3 x1 x4 x8 x3 x1 else d_x8_merges_219 N r_place r_headAsked  s3 x1 x4 x8 (x3 + 1) x1) else none
set_option maxHeartbeats 4000000 in
set_option maxRecDepth 100000 in
theorem c_x8_merges_200 {sc : xS} {d : Nat} {R : Rs} (N : Nat) (r_place : St → Int → Int → Option Rs) (r_headAsked : St → Int → Int → Option Rs) (e : Nat) (hr_place : ∀ d, e ≤ d → ∀ (s : St) (a0 a1 : Int) (R : Rs), r_place s a0 a1 = some R → vT sc d 175 0 [(0, .ref 77), (1, vi a0), (2, vi a1)] [] s (fun r => r = qI R)) (hr_headAsked : ∀ d, e ≤ d → ∀ (s : St) (a0 a1 : Int) (R : Rs), r_headAsked s a0 a1 = some R → vT sc d 140 0 [(0, .ref 77), (1, vi a0), (2, vi a1)] [] s (fun r => r = qI R)) (hd : e + 1 ≤ d)   (s : St) (x1 : Int) (x3 : Int) (x4 : Int) (x8 : Int) (z0 : Int) (z1 : Int) : d_x8_merges_200 N r_place r_headAsked  s x1 x3 x4 x8 z0 z1 = some R → vT sc d 165 200 [(0, .ref 77), (1, vi x1), (3, vi x3), (4, vi x4), (8, vi x8)] [vi z0, vi z1, .ref 93] s (fun r => r = qI R) := by
  obtain ⟨d, rfl⟩ : ∃ d', d = d' + 1 := ⟨d - 1, by omega⟩
  unfold d_x8_merges_200
  refine vIas 201 rfl i165_200 sh_93 rfl (fun s3 => ?_)
  refine vLan 202 i165_201 rfl rfl ?_
  refine vGetC 205 i165_202 f165_52 sh_77 rfl rfl ?_
  refine vLin 206 i165_205 rfl rfl ?_
  refine vLi 208 i165_206 rfl rfl ?_
  refine vK 209 i165_208 rfl ?_
  refine vCne 216 212 rfl (show w32 1 = 1 from rfl) i165_209 rfl rfl ?_ ?_
  · refine vLin 217 i165_216 rfl rfl ?_
    refine vK 218 i165_217 rfl ?_
    refine vIadd 219 i165_218 rfl ?_
    exact fun hD => tLc [(0, .ref 77), (1, vi x1), (4, vi x4), (8, vi x8)] (xNdk [0, 1, 4, 8] rfl (by decide)) (xNdk [0, 1, 3, 4, 8] rfl (by decide)) ⟨rfl, rfl, rfl, rfl, trivial⟩ (c_x8_merges_219 N r_place r_headAsked e hr_place hr_headAsked hd  s3 x1 x4 x8 (x3 + 1) x1 hD)
  · refine vLin 213 i165_212 rfl rfl ?_
    refine vGo 219 i165_213 rfl ?_
    exact fun hD => tLc [(0, .ref 77), (1, vi x1), (4, vi x4), (8, vi x8)] (xNdk [0, 1, 4, 8] rfl (by decide)) (xNdk [0, 1, 3, 4, 8] rfl (by decide)) ⟨rfl, rfl, rfl, rfl, trivial⟩ (c_x8_merges_219 N r_place r_headAsked e hr_place hr_headAsked hd  s3 x1 x4 x8 x3 x1 hD)
def d_x8_merges_172 (N : Nat) (r_place : St → Int → Int → Option Rs) (r_headAsked : St → Int → Int → Option Rs)  (s : St) (x1 : Int) (x2 : Int) (x3 : Int) (x4 : Int) (x8 : Int) : Option Rs :=
  (if (w32 x8) = 1 then d_x8_merges_200 N r_place r_headAsked  s x1 x3 x4 x8 ((2 * x4) + 1) ((64 * x1) + x2) else d_x8_merges_200 N r_place r_headAsked  s x1 x3 x4 x8 (2 * x3) ((64 * x1) + x2))
set_option maxHeartbeats 4000000 in
set_option maxRecDepth 100000 in
theorem c_x8_merges_172 {sc : xS} {d : Nat} {R : Rs} (N : Nat) (r_place : St → Int → Int → Option Rs) (r_headAsked : St → Int → Int → Option Rs) (e : Nat) (hr_place : ∀ d, e ≤ d → ∀ (s : St) (a0 a1 : Int) (R : Rs), r_place s a0 a1 = some R → vT sc d 175 0 [(0, .ref 77), (1, vi a0), (2, vi a1)] [] s (fun r => r = qI R)) (hr_headAsked : ∀ d, e ≤ d → ∀ (s : St) (a0 a1 : Int) (R : Rs), r_headAsked s a0 a1 = some R → vT sc d 140 0 [(0, .ref 77), (1, vi a0), (2, vi a1)] [] s (fun r => r = qI R)) (hd : e + 1 ≤ d)   (s : St) (x1 : Int) (x2 : Int) (x3 : Int) (x4 : Int) (x8 : Int) : d_x8_merges_172 N r_place r_headAsked  s x1 x2 x3 x4 x8 = some R → vT sc d 165 172 [(0, .ref 77), (1, vi x1), (2, vi x2), (3, vi x3), (4, vi x4), (8, vi x8)] [] s (fun r => r = qI R) := by
  obtain ⟨d, rfl⟩ : ∃ d', d = d' + 1 := ⟨d - 1, by omega⟩
  unfold d_x8_merges_172
  refine vLan 173 i165_172 rfl rfl ?_
  refine vGetC 176 i165_173 f165_64 sh_77 rfl rfl ?_
  refine vKb 178 i165_176 (by decide) rfl ?_
  refine vLin 179 i165_178 rfl rfl ?_
  refine vImul 180 i165_179 rfl ?_
  refine vLin 181 i165_180 rfl rfl ?_
  refine vIadd 182 i165_181 rfl ?_
  refine vLi 184 i165_182 rfl rfl ?_
  refine vK 185 i165_184 rfl ?_
  refine vCne 197 188 rfl (show w32 1 = 1 from rfl) i165_185 rfl rfl ?_ ?_
  · refine vK 198 i165_197 rfl ?_
    refine vLin 199 i165_198 rfl rfl ?_
    refine vImul 200 i165_199 rfl ?_
    exact fun hD => tLc [(0, .ref 77), (1, vi x1), (3, vi x3), (4, vi x4), (8, vi x8)] (xNdk [0, 1, 3, 4, 8] rfl (by decide)) (xNdk [0, 1, 2, 3, 4, 8] rfl (by decide)) ⟨rfl, rfl, rfl, rfl, rfl, trivial⟩ (c_x8_merges_200 N r_place r_headAsked e hr_place hr_headAsked hd  s x1 x3 x4 x8 (2 * x3) ((64 * x1) + x2) hD)
  · refine vK 189 i165_188 rfl ?_
    refine vLi 191 i165_189 rfl rfl ?_
    refine vImul 192 i165_191 rfl ?_
    refine vK 193 i165_192 rfl ?_
    refine vIadd 194 i165_193 rfl ?_
    refine vGo 200 i165_194 rfl ?_
    exact fun hD => tLc [(0, .ref 77), (1, vi x1), (3, vi x3), (4, vi x4), (8, vi x8)] (xNdk [0, 1, 3, 4, 8] rfl (by decide)) (xNdk [0, 1, 2, 3, 4, 8] rfl (by decide)) ⟨rfl, rfl, rfl, rfl, rfl, trivial⟩ (c_x8_merges_200 N r_place r_headAsked e hr_place hr_headAsked hd  s x1 x3 x4 x8 ((2 * x4) + 1) ((64 * x1) + x2) hD)
def d_x8_merges_170 (N : Nat) (r_place : St → Int → Int → Option Rs) (r_headAsked : St → Int → Int → Option Rs)  (s : St) (x1 : Int) (x2 : Int) (x3 : Int) (x4 : Int) (z0 : Int) : Option Rs :=
  d_x8_merges_172 N r_place r_headAsked  s x1 x2 x3 x4 z0
set_option maxHeartbeats 4000000 in
set_option maxRecDepth 100000 in
theorem c_x8_merges_170 {sc : xS} {d : Nat} {R : Rs} (N : Nat) (r_place : St → Int → Int → Option Rs) (r_headAsked : St → Int → Int → Option Rs) (e : Nat) (hr_place : ∀ d, e ≤ d → ∀ (s : St) (a0 a1 : Int) (R : Rs), r_place s a0 a1 = some R → vT sc d 175 0 [(0, .ref 77), (1, vi a0), (2, vi a1)] [] s (fun r => r = qI R)) (hr_headAsked : ∀ d, e ≤ d → ∀ (s : St) (a0 a1 : Int) (R : Rs), r_headAsked s a0 a1 = some R → vT sc d 140 0 [(0, .ref 77), (1, vi a0), (2, vi a1)] [] s (fun r => r = qI R)) (hd : e + 1 ≤ d)   (s : St) (x1 : Int) (x2 : Int) (x3 : Int) (x4 : Int) (z0 : Int) : d_x8_merges_170 N r_place r_headAsked  s x1 x2 x3 x4 z0 = some R → vT sc d 165 170 [(0, .ref 77), (1, vi x1), (2, vi x2), (3, vi x3), (4, vi x4)] [vi z0] s (fun r => r = qI R) := by
  obtain ⟨d, rfl⟩ : ∃ d', d = d' + 1 := ⟨d - 1, by omega⟩
  unfold d_x8_merges_170
  refine vSi0 172 [(8, vi z0), (0, .ref 77), (1, vi x1), (2, vi x2), (3, vi x3), (4, vi x4)] i165_170 m165 (by decide) rfl rfl ?_
  exact fun hD => tLc [(0, .ref 77), (1, vi x1), (2, vi x2), (3, vi x3), (4, vi x4), (8, vi z0)] (xNdk [0, 1, 2, 3, 4, 8] rfl (by decide)) (xNdk [8, 0, 1, 2, 3, 4] rfl (by decide)) ⟨rfl, rfl, rfl, rfl, rfl, rfl, trivial⟩ (c_x8_merges_172 N r_place r_headAsked e hr_place hr_headAsked hd  s x1 x2 x3 x4 z0 hD)
def d_x8_merges_89 (N : Nat) (r_place : St → Int → Int → Option Rs) (r_headAsked : St → Int → Int → Option Rs)  (s : St) (x1 : Int) (x2 : Int) (x3 : Int) (x4 : Int) (x5 : Int) (z0 : Int) : Option Rs :=
  (if (w32 z0) = 2 then bI (r_headAsked s (x1 + 1) x3) fun s4 v5 => (if (w32 v5) = 1 then bd (s4 77 38) fun v6 => bI (r_headAsked s4 x5 x4) fun s7 v8 => (if (w32 v8) = 1 then (if (w64 v6) < (w64 (s7 77 38)) then d_x8_merges_170 N r_place r_headAsked  s7 x1 x2 x3 x4 0 else (if (w64 (s7 77 38)) < (w64 v6) then d_x8_merges_170 N r_place r_headAsked  s7 x1 x2 x3 x4 1 else d_x8_merges_170 N r_place r_headAsked  s7 x1 x2 x3 x4 2)) else some (s7, v8)) else some (s4, v5)) else d_x8_merges_172 N r_place r_headAsked  s x1 x2 x3 x4 z0)
set_option maxHeartbeats 4000000 in
set_option maxRecDepth 100000 in
theorem c_x8_merges_89 {sc : xS} {d : Nat} {R : Rs} (N : Nat) (r_place : St → Int → Int → Option Rs) (r_headAsked : St → Int → Int → Option Rs) (e : Nat) (hr_place : ∀ d, e ≤ d → ∀ (s : St) (a0 a1 : Int) (R : Rs), r_place s a0 a1 = some R → vT sc d 175 0 [(0, .ref 77), (1, vi a0), (2, vi a1)] [] s (fun r => r = qI R)) (hr_headAsked : ∀ d, e ≤ d → ∀ (s : St) (a0 a1 : Int) (R : Rs), r_headAsked s a0 a1 = some R → vT sc d 140 0 [(0, .ref 77), (1, vi a0), (2, vi a1)] [] s (fun r => r = qI R)) (hd : e + 1 ≤ d)   (s : St) (x1 : Int) (x2 : Int) (x3 : Int) (x4 : Int) (x5 : Int) (z0 : Int) : d_x8_merges_89 N r_place r_headAsked  s x1 x2 x3 x4 x5 z0 = some R → vT sc d 165 89 [(0, .ref 77), (1, vi x1), (2, vi x2), (3, vi x3), (4, vi x4), (5, vi x5)] [vi z0] s (fun r => r = qI R) := by
  obtain ⟨d, rfl⟩ : ∃ d', d = d' + 1 := ⟨d - 1, by omega⟩
  unfold d_x8_merges_89
  refine vSi0 91 [(8, vi z0), (0, .ref 77), (1, vi x1), (2, vi x2), (3, vi x3), (4, vi x4), (5, vi x5)] i165_89 m165 (by decide) rfl rfl ?_
  refine vLi 93 i165_91 rfl rfl ?_
  refine vK 94 i165_93 rfl ?_
  refine vCne 172 97 rfl (show w32 2 = 2 from rfl) i165_94 rfl rfl ?_ ?_
  · exact fun hD => tLc [(0, .ref 77), (1, vi x1), (2, vi x2), (3, vi x3), (4, vi x4), (8, vi z0)] (xNdk [0, 1, 2, 3, 4, 8] rfl (by decide)) (xNdk [8, 0, 1, 2, 3, 4, 5] rfl (by decide)) ⟨rfl, rfl, rfl, rfl, rfl, rfl, trivial⟩ (c_x8_merges_172 N r_place r_headAsked e hr_place hr_headAsked hd  s x1 x2 x3 x4 z0 hD)
  · refine vLan 98 i165_97 rfl rfl ?_
    refine vLin 99 i165_98 rfl rfl ?_
    refine vK 100 i165_99 rfl ?_
    refine vIadd 101 i165_100 rfl ?_
    refine vLin 102 i165_101 rfl rfl ?_
    refine vCallI 105 [.ref 77, vi (x1 + 1), vi x3] [] [(0, .ref 77), (1, vi (x1 + 1)), (2, vi x3)] i165_102 rfl (xlk0 l165_348) (Or.inl rfl) m140 rfl rfl (Nat.le_of_ble_eq_true rfl) (Nat.le_of_ble_eq_true rfl) (Nat.le_of_ble_eq_true rfl) (xh0 sh_77 (by decide)) rfl rfl (hr_headAsked d (by omega) s (x1 + 1) x3) (fun s4 v5 => ?_)
    refine vSi0 107 [(9, vi v5), (8, vi z0), (0, .ref 77), (1, vi x1), (2, vi x2), (3, vi x3), (4, vi x4), (5, vi x5)] i165_105 m165 (by decide) rfl rfl ?_
    refine vLi 109 i165_107 rfl rfl ?_
    refine vK 110 i165_109 rfl ?_
    refine vCeq 116 113 rfl (show w32 1 = 1 from rfl) i165_110 rfl rfl ?_ ?_
    · refine vLan 117 i165_116 rfl rfl ?_
      refine vGetL 120 i165_117 f165_351 sh_77 rfl rfl ?_
      refine vSl 122 (fun v6 => [(10, vl v6), (9, vi v5), (8, vi z0), (0, .ref 77), (1, vi x1), (2, vi x2), (3, vi x3), (4, vi x4), (5, vi x5)]) i165_120 m165 (by decide) (fun v6 => (rfl : xst2 [(9, vi v5), (8, vi z0), (0, .ref 77), (1, vi x1), (2, vi x2), (3, vi x3), (4, vi x4), (5, vi x5)] 10 (vl v6) = [(10, vl v6), (9, vi v5), (8, vi z0), (0, .ref 77), (1, vi x1), (2, vi x2), (3, vi x3), (4, vi x4), (5, vi x5)])) rfl (fun v6 => ?_)
      refine vLan 123 i165_122 rfl rfl ?_
      refine vLi 125 i165_123 rfl rfl ?_
      refine vLi 127 i165_125 rfl rfl ?_
      refine vCallI 130 [.ref 77, vi x5, vi x4] [] [(0, .ref 77), (1, vi x5), (2, vi x4)] i165_127 rfl (xlk0 l165_348) (Or.inl rfl) m140 rfl rfl (Nat.le_of_ble_eq_true rfl) (Nat.le_of_ble_eq_true rfl) (Nat.le_of_ble_eq_true rfl) (xh0 sh_77 (by decide)) rfl rfl (hr_headAsked d (by omega) s4 x5 x4) (fun s7 v8 => ?_)
      refine vSi0 132 [(9, vi v8), (10, vl v6), (8, vi z0), (0, .ref 77), (1, vi x1), (2, vi x2), (3, vi x3), (4, vi x4), (5, vi x5)] i165_130 m165 (by decide) rfl rfl ?_
      refine vLi 134 i165_132 rfl rfl ?_
      refine vK 135 i165_134 rfl ?_
      refine vCeq 141 138 rfl (show w32 1 = 1 from rfl) i165_135 rfl rfl ?_ ?_
      · refine vLl 143 i165_141 rfl rfl ?_
        refine vLan 144 i165_143 rfl rfl ?_
        refine vGetL 147 i165_144 f165_351 sh_77 rfl rfl ?_
        refine vLcge 155 148 151 rfl rfl i165_147 rfl i165_148 rfl rfl ?_ ?_
        · refine vLl 157 i165_155 rfl rfl ?_
          refine vLan 158 i165_157 rfl rfl ?_
          refine vGetL 161 i165_158 f165_351 sh_77 rfl rfl ?_
          refine vLcle 169 162 165 rfl rfl i165_161 rfl i165_162 rfl rfl ?_ ?_
          · refine vK 170 i165_169 rfl ?_
            exact fun hD => tLc [(0, .ref 77), (1, vi x1), (2, vi x2), (3, vi x3), (4, vi x4)] (xNdk [0, 1, 2, 3, 4] rfl (by decide)) (xNdk [9, 10, 8, 0, 1, 2, 3, 4, 5] rfl (by decide)) ⟨rfl, rfl, rfl, rfl, rfl, trivial⟩ (c_x8_merges_170 N r_place r_headAsked e hr_place hr_headAsked hd  s7 x1 x2 x3 x4 2 hD)
          · refine vK 166 i165_165 rfl ?_
            refine vGo 170 i165_166 rfl ?_
            exact fun hD => tLc [(0, .ref 77), (1, vi x1), (2, vi x2), (3, vi x3), (4, vi x4)] (xNdk [0, 1, 2, 3, 4] rfl (by decide)) (xNdk [9, 10, 8, 0, 1, 2, 3, 4, 5] rfl (by decide)) ⟨rfl, rfl, rfl, rfl, rfl, trivial⟩ (c_x8_merges_170 N r_place r_headAsked e hr_place hr_headAsked hd  s7 x1 x2 x3 x4 1 hD)
        · refine vK 152 i165_151 rfl ?_
          refine vGo 170 i165_152 rfl ?_
          exact fun hD => tLc [(0, .ref 77), (1, vi x1), (2, vi x2), (3, vi x3), (4, vi x4)] (xNdk [0, 1, 2, 3, 4] rfl (by decide)) (xNdk [9, 10, 8, 0, 1, 2, 3, 4, 5] rfl (by decide)) ⟨rfl, rfl, rfl, rfl, rfl, trivial⟩ (c_x8_merges_170 N r_place r_headAsked e hr_place hr_headAsked hd  s7 x1 x2 x3 x4 0 hD)
      · refine vLi 140 i165_138 rfl rfl ?_
        exact vRi i165_140 m165 rfl
    · refine vLi 115 i165_113 rfl rfl ?_
      exact vRi i165_115 m165 rfl
def d_x8_merges_70 (N : Nat) (r_place : St → Int → Int → Option Rs) (r_headAsked : St → Int → Int → Option Rs)  (s : St) (x1 : Int) (x2 : Int) (x3 : Int) (x4 : Int) (x5 : Int) (x6 : Int) (x7 : Int) : Option Rs :=
  (if (w32 x7) = 0 then d_x8_merges_89 N r_place r_headAsked  s x1 x2 x3 x4 x5 0 else (if (w32 x6) = 0 then d_x8_merges_89 N r_place r_headAsked  s x1 x2 x3 x4 x5 1 else d_x8_merges_89 N r_place r_headAsked  s x1 x2 x3 x4 x5 2))
set_option maxHeartbeats 4000000 in
set_option maxRecDepth 100000 in
theorem c_x8_merges_70 {sc : xS} {d : Nat} {R : Rs} (N : Nat) (r_place : St → Int → Int → Option Rs) (r_headAsked : St → Int → Int → Option Rs) (e : Nat) (hr_place : ∀ d, e ≤ d → ∀ (s : St) (a0 a1 : Int) (R : Rs), r_place s a0 a1 = some R → vT sc d 175 0 [(0, .ref 77), (1, vi a0), (2, vi a1)] [] s (fun r => r = qI R)) (hr_headAsked : ∀ d, e ≤ d → ∀ (s : St) (a0 a1 : Int) (R : Rs), r_headAsked s a0 a1 = some R → vT sc d 140 0 [(0, .ref 77), (1, vi a0), (2, vi a1)] [] s (fun r => r = qI R)) (hd : e + 1 ≤ d)   (s : St) (x1 : Int) (x2 : Int) (x3 : Int) (x4 : Int) (x5 : Int) (x6 : Int) (x7 : Int) : d_x8_merges_70 N r_place r_headAsked  s x1 x2 x3 x4 x5 x6 x7 = some R → vT sc d 165 70 [(0, .ref 77), (1, vi x1), (2, vi x2), (3, vi x3), (4, vi x4), (5, vi x5), (6, vi x6), (7, vi x7)] [] s (fun r => r = qI R) := by
  obtain ⟨d, rfl⟩ : ∃ d', d = d' + 1 := ⟨d - 1, by omega⟩
  unfold d_x8_merges_70
  refine vLi 72 i165_70 rfl rfl ?_
  refine vZne 79 75 rfl i165_72 rfl rfl ?_ ?_
  · refine vLi 81 i165_79 rfl rfl ?_
    refine vZne 88 84 rfl i165_81 rfl rfl ?_ ?_
    · refine vK 89 i165_88 rfl ?_
      exact fun hD => tLc [(0, .ref 77), (1, vi x1), (2, vi x2), (3, vi x3), (4, vi x4), (5, vi x5)] (xNdk [0, 1, 2, 3, 4, 5] rfl (by decide)) (xNdk [0, 1, 2, 3, 4, 5, 6, 7] rfl (by decide)) ⟨rfl, rfl, rfl, rfl, rfl, rfl, trivial⟩ (c_x8_merges_89 N r_place r_headAsked e hr_place hr_headAsked hd  s x1 x2 x3 x4 x5 2 hD)
    · refine vK 85 i165_84 rfl ?_
      refine vGo 89 i165_85 rfl ?_
      exact fun hD => tLc [(0, .ref 77), (1, vi x1), (2, vi x2), (3, vi x3), (4, vi x4), (5, vi x5)] (xNdk [0, 1, 2, 3, 4, 5] rfl (by decide)) (xNdk [0, 1, 2, 3, 4, 5, 6, 7] rfl (by decide)) ⟨rfl, rfl, rfl, rfl, rfl, rfl, trivial⟩ (c_x8_merges_89 N r_place r_headAsked e hr_place hr_headAsked hd  s x1 x2 x3 x4 x5 1 hD)
  · refine vK 76 i165_75 rfl ?_
    refine vGo 89 i165_76 rfl ?_
    exact fun hD => tLc [(0, .ref 77), (1, vi x1), (2, vi x2), (3, vi x3), (4, vi x4), (5, vi x5)] (xNdk [0, 1, 2, 3, 4, 5] rfl (by decide)) (xNdk [0, 1, 2, 3, 4, 5, 6, 7] rfl (by decide)) ⟨rfl, rfl, rfl, rfl, rfl, rfl, trivial⟩ (c_x8_merges_89 N r_place r_headAsked e hr_place hr_headAsked hd  s x1 x2 x3 x4 x5 0 hD)
def d_x8_merges (N : Nat) (r_place : St → Int → Int → Option Rs) (r_headAsked : St → Int → Int → Option Rs)  (s : St) (a0 : Int) (a1 : Int) : Option Rs :=
  if 0 ≤ (w32 a0) ∧ (w32 a0) < ((192 : Nat) : Int) then bd (s 89 (Int.toNat (w32 a0))) fun v9 => if 0 ≤ (w32 a0) ∧ (w32 a0) < ((192 : Nat) : Int) then bd (s 90 (Int.toNat (w32 a0))) fun v10 => bI (d_x8_other N  s a0) fun s11 v12 => bI (r_place s11 (a0 + 1) v9) fun s13 v14 => (if (w32 v14) < 0 then some (s13, v14) else bI (r_place s13 v12 v10) fun s15 v16 => (if (w32 v16) < 0 then some (s15, v16) else (if (w32 v14) = 0 then (if (w32 v16) = 0 then some (s15, 0) else d_x8_merges_70 N r_place r_headAsked  s15 a0 a1 v9 v10 v12 v14 v16) else d_x8_merges_70 N r_place r_headAsked  s15 a0 a1 v9 v10 v12 v14 v16))) else none else none
set_option maxHeartbeats 4000000 in
set_option maxRecDepth 100000 in
theorem c_x8_merges {sc : xS} {d : Nat} {R : Rs} (N : Nat) (r_place : St → Int → Int → Option Rs) (r_headAsked : St → Int → Int → Option Rs) (e : Nat) (hr_place : ∀ d, e ≤ d → ∀ (s : St) (a0 a1 : Int) (R : Rs), r_place s a0 a1 = some R → vT sc d 175 0 [(0, .ref 77), (1, vi a0), (2, vi a1)] [] s (fun r => r = qI R)) (hr_headAsked : ∀ d, e ≤ d → ∀ (s : St) (a0 a1 : Int) (R : Rs), r_headAsked s a0 a1 = some R → vT sc d 140 0 [(0, .ref 77), (1, vi a0), (2, vi a1)] [] s (fun r => r = qI R)) (hd : e + 1 ≤ d)   (s : St) (a0 : Int) (a1 : Int) : d_x8_merges N r_place r_headAsked  s a0 a1 = some R → vT sc d 165 0 [(0, .ref 77), (1, vi a0), (2, vi a1)] [] s (fun r => r = qI R) := by
  obtain ⟨d, rfl⟩ : ∃ d', d = d' + 1 := ⟨d - 1, by omega⟩
  unfold d_x8_merges
  refine vLan 1 i165_0 rfl rfl ?_
  refine vGetC 4 i165_1 f165_52 sh_77 rfl rfl ?_
  refine vLin 5 i165_4 rfl rfl ?_
  refine vIal 6 rfl i165_5 sh_89 rfl ?_
  refine vSin 7 (fun v9 => [(3, vi v9), (0, .ref 77), (1, vi a0), (2, vi a1)]) i165_6 m165 (by decide) (fun v9 => (rfl : xst1 [(0, .ref 77), (1, vi a0), (2, vi a1)] 3 (vi v9) = [(3, vi v9), (0, .ref 77), (1, vi a0), (2, vi a1)])) rfl (fun v9 => ?_)
  refine vLan 8 i165_7 rfl rfl ?_
  refine vGetC 11 i165_8 f165_55 sh_77 rfl rfl ?_
  refine vLin 12 i165_11 rfl rfl ?_
  refine vIal 13 rfl i165_12 sh_90 rfl ?_
  refine vSi 15 (fun v10 => [(4, vi v10), (3, vi v9), (0, .ref 77), (1, vi a0), (2, vi a1)]) i165_13 m165 (by decide) (fun v10 => (rfl : xst1 [(3, vi v9), (0, .ref 77), (1, vi a0), (2, vi a1)] 4 (vi v10) = [(4, vi v10), (3, vi v9), (0, .ref 77), (1, vi a0), (2, vi a1)])) rfl (fun v10 => ?_)
  refine vLan 16 i165_15 rfl rfl ?_
  refine vLin 17 i165_16 rfl rfl ?_
  refine vCallI 20 [.ref 77, vi a0] [] [(0, .ref 77), (1, vi a0)] i165_17 rfl (xlk0 l165_345) (Or.inl rfl) m171 rfl rfl (Nat.le_of_ble_eq_true rfl) (Nat.le_of_ble_eq_true rfl) (Nat.le_of_ble_eq_true rfl) (xh0 sh_77 (by decide)) rfl rfl (fun R1 => c_x8_other N   (by omega) s a0) (fun s11 v12 => ?_)
  refine vSi0 22 [(5, vi v12), (4, vi v10), (3, vi v9), (0, .ref 77), (1, vi a0), (2, vi a1)] i165_20 m165 (by decide) rfl rfl ?_
  refine vLan 23 i165_22 rfl rfl ?_
  refine vLin 24 i165_23 rfl rfl ?_
  refine vK 25 i165_24 rfl ?_
  refine vIadd 26 i165_25 rfl ?_
  refine vLin 27 i165_26 rfl rfl ?_
  refine vCallI 30 [.ref 77, vi (a0 + 1), vi v9] [] [(0, .ref 77), (1, vi (a0 + 1)), (2, vi v9)] i165_27 rfl (xlk0 l165_342) (Or.inl rfl) m175 rfl rfl (Nat.le_of_ble_eq_true rfl) (Nat.le_of_ble_eq_true rfl) (Nat.le_of_ble_eq_true rfl) (xh0 sh_77 (by decide)) rfl rfl (hr_place d (by omega) s11 (a0 + 1) v9) (fun s13 v14 => ?_)
  refine vSi0 32 [(6, vi v14), (5, vi v12), (4, vi v10), (3, vi v9), (0, .ref 77), (1, vi a0), (2, vi a1)] i165_30 m165 (by decide) rfl rfl ?_
  refine vLi 34 i165_32 rfl rfl ?_
  refine vZge 40 37 rfl i165_34 rfl rfl ?_ ?_
  · refine vLan 41 i165_40 rfl rfl ?_
    refine vLi 43 i165_41 rfl rfl ?_
    refine vLi 45 i165_43 rfl rfl ?_
    refine vCallI 48 [.ref 77, vi v12, vi v10] [] [(0, .ref 77), (1, vi v12), (2, vi v10)] i165_45 rfl (xlk0 l165_342) (Or.inl rfl) m175 rfl rfl (Nat.le_of_ble_eq_true rfl) (Nat.le_of_ble_eq_true rfl) (Nat.le_of_ble_eq_true rfl) (xh0 sh_77 (by decide)) rfl rfl (hr_place d (by omega) s13 v12 v10) (fun s15 v16 => ?_)
    refine vSi0 50 [(7, vi v16), (6, vi v14), (5, vi v12), (4, vi v10), (3, vi v9), (0, .ref 77), (1, vi a0), (2, vi a1)] i165_48 m165 (by decide) rfl rfl ?_
    refine vLi 52 i165_50 rfl rfl ?_
    refine vZge 58 55 rfl i165_52 rfl rfl ?_ ?_
    · refine vLi 60 i165_58 rfl rfl ?_
      refine vZne 70 63 rfl i165_60 rfl rfl ?_ ?_
      · exact fun hD => tLc [(0, .ref 77), (1, vi a0), (2, vi a1), (3, vi v9), (4, vi v10), (5, vi v12), (6, vi v14), (7, vi v16)] (xNdk [0, 1, 2, 3, 4, 5, 6, 7] rfl (by decide)) (xNdk [7, 6, 5, 4, 3, 0, 1, 2] rfl (by decide)) ⟨rfl, rfl, rfl, rfl, rfl, rfl, rfl, rfl, trivial⟩ (c_x8_merges_70 N r_place r_headAsked e hr_place hr_headAsked hd  s15 a0 a1 v9 v10 v12 v14 v16 hD)
      · refine vLi 65 i165_63 rfl rfl ?_
        refine vZne 70 68 rfl i165_65 rfl rfl ?_ ?_
        · exact fun hD => tLc [(0, .ref 77), (1, vi a0), (2, vi a1), (3, vi v9), (4, vi v10), (5, vi v12), (6, vi v14), (7, vi v16)] (xNdk [0, 1, 2, 3, 4, 5, 6, 7] rfl (by decide)) (xNdk [7, 6, 5, 4, 3, 0, 1, 2] rfl (by decide)) ⟨rfl, rfl, rfl, rfl, rfl, rfl, rfl, rfl, trivial⟩ (c_x8_merges_70 N r_place r_headAsked e hr_place hr_headAsked hd  s15 a0 a1 v9 v10 v12 v14 v16 hD)
        · refine vK 69 i165_68 rfl ?_
          exact vRi i165_69 m165 rfl
    · refine vLi 57 i165_55 rfl rfl ?_
      exact vRi i165_57 m165 rfl
  · refine vLi 39 i165_37 rfl rfl ?_
    exact vRi i165_39 m165 rfl
theorem f189_17 : xFld xg 189 17 = some (7, 2) := by decide +kernel
theorem f189_351 : xFld xg 189 351 = some (7, 38) := by decide +kernel
theorem f189_26 : xFld xg 189 26 = some (7, 5) := by decide +kernel
theorem f189_33 : xFld xg 189 33 = some (7, 7) := by decide +kernel
theorem i189_159 : xIns xg 189 159 = some (.istore 4) := by decide +kernel
theorem m189 : (xMet xg 189).2.2 = (7, (some .int)) := by decide +kernel
theorem i189_161 : xIns xg 189 161 = some (.aload_n 0) := by decide +kernel
theorem i189_162 : xIns xg 189 162 = some (.iload_n 1) := by decide +kernel
theorem i189_163 : xIns xg 189 163 = some (.iconst 1) := by decide +kernel
theorem i189_164 : xIns xg 189 164 = some (.iadd) := by decide +kernel
theorem i189_165 : xIns xg 189 165 = some (.iload 4) := by decide +kernel
theorem i189_167 : xIns xg 189 167 = some (.invokevirtual 342) := by decide +kernel
theorem i189_170 : xIns xg 189 170 = some (.istore 5) := by decide +kernel
theorem i189_172 : xIns xg 189 172 = some (.iload 5) := by decide +kernel
theorem i189_174 : xIns xg 189 174 = some (.iconst 1) := by decide +kernel
theorem i189_175 : xIns xg 189 175 = some (.if_icmp .eq 6) := by decide +kernel
theorem i189_181 : xIns xg 189 181 = some (.iload_n 3) := by decide +kernel
theorem i189_182 : xIns xg 189 182 = some (.bipush 6) := by decide +kernel
theorem i189_184 : xIns xg 189 184 = some (.if_icmp .ne 14) := by decide +kernel
theorem i189_198 : xIns xg 189 198 = some (.iload_n 3) := by decide +kernel
theorem i189_199 : xIns xg 189 199 = some (.iconst 5) := by decide +kernel
theorem i189_200 : xIns xg 189 200 = some (.if_icmp .eq 5) := by decide +kernel
theorem i189_205 : xIns xg 189 205 = some (.aload_n 0) := by decide +kernel
theorem i189_206 : xIns xg 189 206 = some (.iload_n 1) := by decide +kernel
theorem i189_207 : xIns xg 189 207 = some (.iconst 1) := by decide +kernel
theorem i189_208 : xIns xg 189 208 = some (.iadd) := by decide +kernel
theorem i189_209 : xIns xg 189 209 = some (.iload_n 2) := by decide +kernel
theorem i189_210 : xIns xg 189 210 = some (.invokevirtual 348) := by decide +kernel
theorem i189_213 : xIns xg 189 213 = some (.istore 6) := by decide +kernel
theorem i189_215 : xIns xg 189 215 = some (.iload 6) := by decide +kernel
theorem i189_217 : xIns xg 189 217 = some (.iconst 1) := by decide +kernel
theorem i189_218 : xIns xg 189 218 = some (.if_icmp .ne 15) := by decide +kernel
theorem i189_233 : xIns xg 189 233 = some (.iload 6) := by decide +kernel
theorem i189_235 : xIns xg 189 235 = some (.ireturn) := by decide +kernel
theorem i189_221 : xIns xg 189 221 = some (.aload_n 0) := by decide +kernel
theorem i189_222 : xIns xg 189 222 = some (.iload_n 1) := by decide +kernel
theorem i189_223 : xIns xg 189 223 = some (.aload_n 0) := by decide +kernel
theorem i189_224 : xIns xg 189 224 = some (.getfield 351) := by decide +kernel
theorem i189_227 : xIns xg 189 227 = some (.invokevirtual 355) := by decide +kernel
theorem i189_230 : xIns xg 189 230 = some (.goto 5) := by decide +kernel
theorem i189_203 : xIns xg 189 203 = some (.iconst 1) := by decide +kernel
theorem i189_204 : xIns xg 189 204 = some (.ireturn) := by decide +kernel
theorem i189_187 : xIns xg 189 187 = some (.aload_n 0) := by decide +kernel
theorem i189_188 : xIns xg 189 188 = some (.aload_n 0) := by decide +kernel
theorem i189_189 : xIns xg 189 189 = some (.iload_n 1) := by decide +kernel
theorem i189_190 : xIns xg 189 190 = some (.invokevirtual 345) := by decide +kernel
theorem i189_193 : xIns xg 189 193 = some (.iload_n 2) := by decide +kernel
theorem i189_194 : xIns xg 189 194 = some (.invokevirtual 342) := by decide +kernel
theorem i189_197 : xIns xg 189 197 = some (.ireturn) := by decide +kernel
theorem i189_178 : xIns xg 189 178 = some (.iload 5) := by decide +kernel
theorem i189_180 : xIns xg 189 180 = some (.ireturn) := by decide +kernel
theorem i189_106 : xIns xg 189 106 = some (.iload_n 3) := by decide +kernel
theorem i189_107 : xIns xg 189 107 = some (.bipush 9) := by decide +kernel
theorem i189_109 : xIns xg 189 109 = some (.if_icmp .ne 15) := by decide +kernel
theorem i189_124 : xIns xg 189 124 = some (.iload_n 3) := by decide +kernel
theorem i189_125 : xIns xg 189 125 = some (.bipush 12) := by decide +kernel
theorem i189_127 : xIns xg 189 127 = some (.if_icmp .ne 9) := by decide +kernel
theorem i189_136 : xIns xg 189 136 = some (.iload_n 3) := by decide +kernel
theorem i189_137 : xIns xg 189 137 = some (.bipush 13) := by decide +kernel
theorem i189_139 : xIns xg 189 139 = some (.if_icmp .ne 19) := by decide +kernel
theorem i189_158 : xIns xg 189 158 = some (.iload_n 2) := by decide +kernel
theorem i189_142 : xIns xg 189 142 = some (.aload_n 0) := by decide +kernel
theorem i189_143 : xIns xg 189 143 = some (.getfield 26) := by decide +kernel
theorem i189_146 : xIns xg 189 146 = some (.iload_n 1) := by decide +kernel
theorem i189_147 : xIns xg 189 147 = some (.laload) := by decide +kernel
theorem i189_148 : xIns xg 189 148 = some (.l2i) := by decide +kernel
theorem i189_149 : xIns xg 189 149 = some (.iload_n 2) := by decide +kernel
theorem i189_150 : xIns xg 189 150 = some (.iconst 1) := by decide +kernel
theorem i189_151 : xIns xg 189 151 = some (.iadd) := by decide +kernel
theorem i189_152 : xIns xg 189 152 = some (.imul) := by decide +kernel
theorem i189_153 : xIns xg 189 153 = some (.iconst 1) := by decide +kernel
theorem i189_154 : xIns xg 189 154 = some (.isub) := by decide +kernel
theorem i189_155 : xIns xg 189 155 = some (.goto 4) := by decide +kernel
theorem i189_130 : xIns xg 189 130 = some (.iload_n 2) := by decide +kernel
theorem i189_131 : xIns xg 189 131 = some (.iconst 1) := by decide +kernel
theorem i189_132 : xIns xg 189 132 = some (.isub) := by decide +kernel
theorem i189_133 : xIns xg 189 133 = some (.goto 26) := by decide +kernel
theorem i189_112 : xIns xg 189 112 = some (.iload_n 2) := by decide +kernel
theorem i189_113 : xIns xg 189 113 = some (.aload_n 0) := by decide +kernel
theorem i189_114 : xIns xg 189 114 = some (.getfield 26) := by decide +kernel
theorem i189_117 : xIns xg 189 117 = some (.iload_n 1) := by decide +kernel
theorem i189_118 : xIns xg 189 118 = some (.laload) := by decide +kernel
theorem i189_119 : xIns xg 189 119 = some (.l2i) := by decide +kernel
theorem i189_120 : xIns xg 189 120 = some (.iadd) := by decide +kernel
theorem i189_121 : xIns xg 189 121 = some (.goto 38) := by decide +kernel
theorem i189_94 : xIns xg 189 94 = some (.iload_n 3) := by decide +kernel
theorem i189_95 : xIns xg 189 95 = some (.bipush 12) := by decide +kernel
theorem i189_97 : xIns xg 189 97 = some (.if_icmp .ne 7) := by decide +kernel
theorem i189_104 : xIns xg 189 104 = some (.iconst 0) := by decide +kernel
theorem i189_105 : xIns xg 189 105 = some (.ireturn) := by decide +kernel
theorem i189_100 : xIns xg 189 100 = some (.iconst 1) := by decide +kernel
theorem i189_101 : xIns xg 189 101 = some (.goto 4) := by decide +kernel
theorem i189_84 : xIns xg 189 84 = some (.iload_n 3) := by decide +kernel
theorem i189_85 : xIns xg 189 85 = some (.bipush 12) := by decide +kernel
theorem i189_87 : xIns xg 189 87 = some (.if_icmp .ne 19) := by decide +kernel
theorem i189_90 : xIns xg 189 90 = some (.iload_n 2) := by decide +kernel
theorem i189_91 : xIns xg 189 91 = some (.ifCond .ne 15) := by decide +kernel
theorem i189_46 : xIns xg 189 46 = some (.aload_n 0) := by decide +kernel
theorem i189_47 : xIns xg 189 47 = some (.iload_n 1) := by decide +kernel
theorem i189_48 : xIns xg 189 48 = some (.iload_n 2) := by decide +kernel
theorem i189_49 : xIns xg 189 49 = some (.invokevirtual 336) := by decide +kernel
theorem i189_52 : xIns xg 189 52 = some (.ireturn) := by decide +kernel
theorem i189_0 : xIns xg 189 0 = some (.aload_n 0) := by decide +kernel
theorem i189_1 : xIns xg 189 1 = some (.getfield 17) := by decide +kernel
theorem i189_4 : xIns xg 189 4 = some (.iload_n 1) := by decide +kernel
theorem i189_5 : xIns xg 189 5 = some (.iaload) := by decide +kernel
theorem i189_6 : xIns xg 189 6 = some (.istore_n 3) := by decide +kernel
theorem i189_7 : xIns xg 189 7 = some (.iload_n 3) := by decide +kernel
theorem i189_8 : xIns xg 189 8 = some (.iconst 1) := by decide +kernel
theorem i189_9 : xIns xg 189 9 = some (.if_icmp .ne 5) := by decide +kernel
theorem i189_14 : xIns xg 189 14 = some (.iload_n 3) := by decide +kernel
theorem i189_15 : xIns xg 189 15 = some (.iconst 2) := by decide +kernel
theorem i189_16 : xIns xg 189 16 = some (.if_icmp .ne 19) := by decide +kernel
theorem i189_35 : xIns xg 189 35 = some (.iload_n 3) := by decide +kernel
theorem i189_36 : xIns xg 189 36 = some (.iconst 4) := by decide +kernel
theorem i189_37 : xIns xg 189 37 = some (.if_icmp .eq 9) := by decide +kernel
theorem i189_40 : xIns xg 189 40 = some (.iload_n 3) := by decide +kernel
theorem i189_41 : xIns xg 189 41 = some (.bipush 11) := by decide +kernel
theorem i189_43 : xIns xg 189 43 = some (.if_icmp .ne 10) := by decide +kernel
theorem i189_53 : xIns xg 189 53 = some (.iload_n 3) := by decide +kernel
theorem i189_54 : xIns xg 189 54 = some (.bipush 7) := by decide +kernel
theorem i189_56 : xIns xg 189 56 = some (.if_icmp .ne 10) := by decide +kernel
theorem i189_66 : xIns xg 189 66 = some (.iload_n 3) := by decide +kernel
theorem i189_67 : xIns xg 189 67 = some (.bipush 8) := by decide +kernel
theorem i189_69 : xIns xg 189 69 = some (.if_icmp .ne 15) := by decide +kernel
theorem i189_72 : xIns xg 189 72 = some (.iload_n 2) := by decide +kernel
theorem i189_73 : xIns xg 189 73 = some (.i2l) := by decide +kernel
theorem i189_74 : xIns xg 189 74 = some (.aload_n 0) := by decide +kernel
theorem i189_75 : xIns xg 189 75 = some (.getfield 26) := by decide +kernel
theorem i189_78 : xIns xg 189 78 = some (.iload_n 1) := by decide +kernel
theorem i189_79 : xIns xg 189 79 = some (.laload) := by decide +kernel
theorem i189_80 : xIns xg 189 80 = some (.lcmp) := by decide +kernel
theorem i189_81 : xIns xg 189 81 = some (.ifCond .ge 13) := by decide +kernel
theorem i189_59 : xIns xg 189 59 = some (.aload_n 0) := by decide +kernel
theorem i189_60 : xIns xg 189 60 = some (.iload_n 1) := by decide +kernel
theorem i189_61 : xIns xg 189 61 = some (.iload_n 2) := by decide +kernel
theorem i189_62 : xIns xg 189 62 = some (.invokevirtual 339) := by decide +kernel
theorem i189_65 : xIns xg 189 65 = some (.ireturn) := by decide +kernel
theorem i189_19 : xIns xg 189 19 = some (.iload_n 2) := by decide +kernel
theorem i189_20 : xIns xg 189 20 = some (.aload_n 0) := by decide +kernel
theorem i189_21 : xIns xg 189 21 = some (.getfield 33) := by decide +kernel
theorem i189_24 : xIns xg 189 24 = some (.iload_n 1) := by decide +kernel
theorem i189_25 : xIns xg 189 25 = some (.iaload) := by decide +kernel
theorem i189_26 : xIns xg 189 26 = some (.if_icmp .ge 7) := by decide +kernel
theorem i189_33 : xIns xg 189 33 = some (.iconst 0) := by decide +kernel
theorem i189_34 : xIns xg 189 34 = some (.ireturn) := by decide +kernel
theorem i189_29 : xIns xg 189 29 = some (.iconst 1) := by decide +kernel
theorem i189_30 : xIns xg 189 30 = some (.goto 4) := by decide +kernel
theorem i189_12 : xIns xg 189 12 = some (.iconst 1) := by decide +kernel
theorem i189_13 : xIns xg 189 13 = some (.ireturn) := by decide +kernel
def d_x8_tellsPlace_159 (N : Nat) (r_place : St → Int → Int → Option Rs) (r_headAsked : St → Int → Int → Option Rs)  (s : St) (x1 : Int) (x2 : Int) (x3 : Int) (z0 : Int) : Option Rs :=
  bI (r_place s (x1 + 1) z0) fun s1 v2 => (if (w32 v2) = 1 then (if (w32 x3) = 6 then bI (d_x8_other N  s1 x1) fun s7 v8 => bI (r_place s7 v8 x2) fun s9 v10 => some (s9, v10) else (if (w32 x3) = 5 then bI (r_headAsked s1 (x1 + 1) x2) fun s3 v4 => (if (w32 v4) = 1 then bI (d_x8_passes N  s3 x1 (s3 77 38)) fun s5 v6 => some (s5, v6) else some (s3, v4)) else some (s1, 1))) else some (s1, v2))
set_option maxHeartbeats 4000000 in
set_option maxRecDepth 100000 in
theorem c_x8_tellsPlace_159 {sc : xS} {d : Nat} {R : Rs} (N : Nat) (r_place : St → Int → Int → Option Rs) (r_headAsked : St → Int → Int → Option Rs) (e : Nat) (hr_place : ∀ d, e ≤ d → ∀ (s : St) (a0 a1 : Int) (R : Rs), r_place s a0 a1 = some R → vT sc d 175 0 [(0, .ref 77), (1, vi a0), (2, vi a1)] [] s (fun r => r = qI R)) (hr_headAsked : ∀ d, e ≤ d → ∀ (s : St) (a0 a1 : Int) (R : Rs), r_headAsked s a0 a1 = some R → vT sc d 140 0 [(0, .ref 77), (1, vi a0), (2, vi a1)] [] s (fun r => r = qI R)) (hd : e + 3 ≤ d)   (s : St) (x1 : Int) (x2 : Int) (x3 : Int) (z0 : Int) : d_x8_tellsPlace_159 N r_place r_headAsked  s x1 x2 x3 z0 = some R → vT sc d 189 159 [(0, .ref 77), (1, vi x1), (2, vi x2), (3, vi x3)] [vi z0] s (fun r => r = qI R) := by
  obtain ⟨d, rfl⟩ : ∃ d', d = d' + 1 := ⟨d - 1, by omega⟩
  unfold d_x8_tellsPlace_159
  refine vSi0 161 [(4, vi z0), (0, .ref 77), (1, vi x1), (2, vi x2), (3, vi x3)] i189_159 m189 (by decide) rfl rfl ?_
  refine vLan 162 i189_161 rfl rfl ?_
  refine vLin 163 i189_162 rfl rfl ?_
  refine vK 164 i189_163 rfl ?_
  refine vIadd 165 i189_164 rfl ?_
  refine vLi 167 i189_165 rfl rfl ?_
  refine vCallI 170 [.ref 77, vi (x1 + 1), vi z0] [] [(0, .ref 77), (1, vi (x1 + 1)), (2, vi z0)] i189_167 rfl (xlk0 l189_342) (Or.inl rfl) m175 rfl rfl (Nat.le_of_ble_eq_true rfl) (Nat.le_of_ble_eq_true rfl) (Nat.le_of_ble_eq_true rfl) (xh0 sh_77 (by decide)) rfl rfl (hr_place d (by omega) s (x1 + 1) z0) (fun s1 v2 => ?_)
  refine vSi0 172 [(5, vi v2), (4, vi z0), (0, .ref 77), (1, vi x1), (2, vi x2), (3, vi x3)] i189_170 m189 (by decide) rfl rfl ?_
  refine vLi 174 i189_172 rfl rfl ?_
  refine vK 175 i189_174 rfl ?_
  refine vCeq 181 178 rfl (show w32 1 = 1 from rfl) i189_175 rfl rfl ?_ ?_
  · refine vLin 182 i189_181 rfl rfl ?_
    refine vKb 184 i189_182 (by decide) rfl ?_
    refine vCne 198 187 rfl (show w32 6 = 6 from rfl) i189_184 rfl rfl ?_ ?_
    · refine vLin 199 i189_198 rfl rfl ?_
      refine vK 200 i189_199 rfl ?_
      refine vCeq 205 203 rfl (show w32 5 = 5 from rfl) i189_200 rfl rfl ?_ ?_
      · refine vLan 206 i189_205 rfl rfl ?_
        refine vLin 207 i189_206 rfl rfl ?_
        refine vK 208 i189_207 rfl ?_
        refine vIadd 209 i189_208 rfl ?_
        refine vLin 210 i189_209 rfl rfl ?_
        refine vCallI 213 [.ref 77, vi (x1 + 1), vi x2] [] [(0, .ref 77), (1, vi (x1 + 1)), (2, vi x2)] i189_210 rfl (xlk0 l189_348) (Or.inl rfl) m140 rfl rfl (Nat.le_of_ble_eq_true rfl) (Nat.le_of_ble_eq_true rfl) (Nat.le_of_ble_eq_true rfl) (xh0 sh_77 (by decide)) rfl rfl (hr_headAsked d (by omega) s1 (x1 + 1) x2) (fun s3 v4 => ?_)
        refine vSi0 215 [(6, vi v4), (5, vi v2), (4, vi z0), (0, .ref 77), (1, vi x1), (2, vi x2), (3, vi x3)] i189_213 m189 (by decide) rfl rfl ?_
        refine vLi 217 i189_215 rfl rfl ?_
        refine vK 218 i189_217 rfl ?_
        refine vCne 233 221 rfl (show w32 1 = 1 from rfl) i189_218 rfl rfl ?_ ?_
        · refine vLi 235 i189_233 rfl rfl ?_
          exact vRi i189_235 m189 rfl
        · refine vLan 222 i189_221 rfl rfl ?_
          refine vLin 223 i189_222 rfl rfl ?_
          refine vLan 224 i189_223 rfl rfl ?_
          refine vGetL 227 i189_224 f189_351 sh_77 rfl rfl ?_
          refine vCallI 230 [.ref 77, vi x1, vl (s3 77 38)] [] [(0, .ref 77), (1, vi x1), (2, vl (s3 77 38))] i189_227 rfl (xlk0 l189_355) (Or.inl rfl) m174 rfl rfl (Nat.le_of_ble_eq_true rfl) (Nat.le_of_ble_eq_true rfl) (Nat.le_of_ble_eq_true rfl) (xh0 sh_77 (by decide)) rfl rfl (fun R1 => c_x8_passes N   (by omega) s3 x1 (s3 77 38)) (fun s5 v6 => ?_)
          refine vGo 235 i189_230 rfl ?_
          exact vRi i189_235 m189 rfl
      · refine vK 204 i189_203 rfl ?_
        exact vRi i189_204 m189 rfl
    · refine vLan 188 i189_187 rfl rfl ?_
      refine vLan 189 i189_188 rfl rfl ?_
      refine vLin 190 i189_189 rfl rfl ?_
      refine vCallI 193 [.ref 77, vi x1] [.ref 77] [(0, .ref 77), (1, vi x1)] i189_190 rfl (xlk0 l189_345) (Or.inl rfl) m171 rfl rfl (Nat.le_of_ble_eq_true rfl) (Nat.le_of_ble_eq_true rfl) (Nat.le_of_ble_eq_true rfl) (xh0 sh_77 (by decide)) rfl rfl (fun R1 => c_x8_other N   (by omega) s1 x1) (fun s7 v8 => ?_)
      refine vLin 194 i189_193 rfl rfl ?_
      refine vCallI 197 [.ref 77, vi v8, vi x2] [] [(0, .ref 77), (1, vi v8), (2, vi x2)] i189_194 rfl (xlk0 l189_342) (Or.inl rfl) m175 rfl rfl (Nat.le_of_ble_eq_true rfl) (Nat.le_of_ble_eq_true rfl) (Nat.le_of_ble_eq_true rfl) (xh0 sh_77 (by decide)) rfl rfl (hr_place d (by omega) s7 v8 x2) (fun s9 v10 => ?_)
      exact vRi i189_197 m189 rfl
  · refine vLi 180 i189_178 rfl rfl ?_
    exact vRi i189_180 m189 rfl
def d_x8_tellsPlace_106 (N : Nat) (r_place : St → Int → Int → Option Rs) (r_headAsked : St → Int → Int → Option Rs)  (s : St) (x1 : Int) (x2 : Int) (x3 : Int) : Option Rs :=
  (if (w32 x3) = 9 then if 0 ≤ (w32 x1) ∧ (w32 x1) < ((192 : Nat) : Int) then d_x8_tellsPlace_159 N r_place r_headAsked  s x1 x2 x3 (x2 + (s 82 (Int.toNat (w32 x1)))) else none else (if (w32 x3) = 12 then d_x8_tellsPlace_159 N r_place r_headAsked  s x1 x2 x3 (x2 - 1) else (if (w32 x3) = 13 then if 0 ≤ (w32 x1) ∧ (w32 x1) < ((192 : Nat) : Int) then d_x8_tellsPlace_159 N r_place r_headAsked  s x1 x2 x3 (((s 82 (Int.toNat (w32 x1))) * (x2 + 1)) - 1) else none else d_x8_tellsPlace_159 N r_place r_headAsked  s x1 x2 x3 x2)))
set_option maxHeartbeats 4000000 in
set_option maxRecDepth 100000 in
theorem c_x8_tellsPlace_106 {sc : xS} {d : Nat} {R : Rs} (N : Nat) (r_place : St → Int → Int → Option Rs) (r_headAsked : St → Int → Int → Option Rs) (e : Nat) (hr_place : ∀ d, e ≤ d → ∀ (s : St) (a0 a1 : Int) (R : Rs), r_place s a0 a1 = some R → vT sc d 175 0 [(0, .ref 77), (1, vi a0), (2, vi a1)] [] s (fun r => r = qI R)) (hr_headAsked : ∀ d, e ≤ d → ∀ (s : St) (a0 a1 : Int) (R : Rs), r_headAsked s a0 a1 = some R → vT sc d 140 0 [(0, .ref 77), (1, vi a0), (2, vi a1)] [] s (fun r => r = qI R)) (hd : e + 3 ≤ d)   (s : St) (x1 : Int) (x2 : Int) (x3 : Int) : d_x8_tellsPlace_106 N r_place r_headAsked  s x1 x2 x3 = some R → vT sc d 189 106 [(0, .ref 77), (1, vi x1), (2, vi x2), (3, vi x3)] [] s (fun r => r = qI R) := by
  obtain ⟨d, rfl⟩ : ∃ d', d = d' + 1 := ⟨d - 1, by omega⟩
  unfold d_x8_tellsPlace_106
  refine vLin 107 i189_106 rfl rfl ?_
  refine vKb 109 i189_107 (by decide) rfl ?_
  refine vCne 124 112 rfl (show w32 9 = 9 from rfl) i189_109 rfl rfl ?_ ?_
  · refine vLin 125 i189_124 rfl rfl ?_
    refine vKb 127 i189_125 (by decide) rfl ?_
    refine vCne 136 130 rfl (show w32 12 = 12 from rfl) i189_127 rfl rfl ?_ ?_
    · refine vLin 137 i189_136 rfl rfl ?_
      refine vKb 139 i189_137 (by decide) rfl ?_
      refine vCne 158 142 rfl (show w32 13 = 13 from rfl) i189_139 rfl rfl ?_ ?_
      · refine vLin 159 i189_158 rfl rfl ?_
        exact fun hD => c_x8_tellsPlace_159 N r_place r_headAsked e hr_place hr_headAsked hd  s x1 x2 x3 x2 hD
      · refine vLan 143 i189_142 rfl rfl ?_
        refine vGetC 146 i189_143 f189_26 sh_77 rfl rfl ?_
        refine vLin 147 i189_146 rfl rfl ?_
        refine vLal 148 rfl i189_147 sh_82 rfl ?_
        refine vL2i 149 i189_148 rfl ?_
        refine vLin 150 i189_149 rfl rfl ?_
        refine vK 151 i189_150 rfl ?_
        refine vIadd 152 i189_151 rfl ?_
        refine vImul 153 i189_152 rfl ?_
        refine vK 154 i189_153 rfl ?_
        refine vIsub 155 i189_154 rfl ?_
        refine vGo 159 i189_155 rfl ?_
        exact fun hD => c_x8_tellsPlace_159 N r_place r_headAsked e hr_place hr_headAsked hd  s x1 x2 x3 (((s 82 (Int.toNat (w32 x1))) * (x2 + 1)) - 1) hD
    · refine vLin 131 i189_130 rfl rfl ?_
      refine vK 132 i189_131 rfl ?_
      refine vIsub 133 i189_132 rfl ?_
      refine vGo 159 i189_133 rfl ?_
      exact fun hD => c_x8_tellsPlace_159 N r_place r_headAsked e hr_place hr_headAsked hd  s x1 x2 x3 (x2 - 1) hD
  · refine vLin 113 i189_112 rfl rfl ?_
    refine vLan 114 i189_113 rfl rfl ?_
    refine vGetC 117 i189_114 f189_26 sh_77 rfl rfl ?_
    refine vLin 118 i189_117 rfl rfl ?_
    refine vLal 119 rfl i189_118 sh_82 rfl ?_
    refine vL2i 120 i189_119 rfl ?_
    refine vIadd 121 i189_120 rfl ?_
    refine vGo 159 i189_121 rfl ?_
    exact fun hD => c_x8_tellsPlace_159 N r_place r_headAsked e hr_place hr_headAsked hd  s x1 x2 x3 (x2 + (s 82 (Int.toNat (w32 x1)))) hD
def d_x8_tellsPlace_94 (N : Nat) (r_place : St → Int → Int → Option Rs) (r_headAsked : St → Int → Int → Option Rs)  (s : St) (x3 : Int) : Option Rs :=
  (if (w32 x3) = 12 then some (s, 1) else some (s, 0))
set_option maxHeartbeats 4000000 in
set_option maxRecDepth 100000 in
theorem c_x8_tellsPlace_94 {sc : xS} {d : Nat} {R : Rs} (N : Nat) (r_place : St → Int → Int → Option Rs) (r_headAsked : St → Int → Int → Option Rs) (e : Nat) (hr_place : ∀ d, e ≤ d → ∀ (s : St) (a0 a1 : Int) (R : Rs), r_place s a0 a1 = some R → vT sc d 175 0 [(0, .ref 77), (1, vi a0), (2, vi a1)] [] s (fun r => r = qI R)) (hr_headAsked : ∀ d, e ≤ d → ∀ (s : St) (a0 a1 : Int) (R : Rs), r_headAsked s a0 a1 = some R → vT sc d 140 0 [(0, .ref 77), (1, vi a0), (2, vi a1)] [] s (fun r => r = qI R)) (hd : e + 3 ≤ d)   (s : St) (x3 : Int) : d_x8_tellsPlace_94 N r_place r_headAsked  s x3 = some R → vT sc d 189 94 [(3, vi x3)] [] s (fun r => r = qI R) := by
  obtain ⟨d, rfl⟩ : ∃ d', d = d' + 1 := ⟨d - 1, by omega⟩
  unfold d_x8_tellsPlace_94
  refine vLin 95 i189_94 rfl rfl ?_
  refine vKb 97 i189_95 (by decide) rfl ?_
  refine vCne 104 100 rfl (show w32 12 = 12 from rfl) i189_97 rfl rfl ?_ ?_
  · refine vK 105 i189_104 rfl ?_
    exact vRi i189_105 m189 rfl
  · refine vK 101 i189_100 rfl ?_
    refine vGo 105 i189_101 rfl ?_
    exact vRi i189_105 m189 rfl
def d_x8_tellsPlace_84 (N : Nat) (r_place : St → Int → Int → Option Rs) (r_headAsked : St → Int → Int → Option Rs)  (s : St) (x1 : Int) (x2 : Int) (x3 : Int) : Option Rs :=
  (if (w32 x3) = 12 then (if (w32 x2) = 0 then d_x8_tellsPlace_94 N r_place r_headAsked  s x3 else d_x8_tellsPlace_106 N r_place r_headAsked  s x1 x2 x3) else d_x8_tellsPlace_106 N r_place r_headAsked  s x1 x2 x3)
set_option maxHeartbeats 4000000 in
set_option maxRecDepth 100000 in
theorem c_x8_tellsPlace_84 {sc : xS} {d : Nat} {R : Rs} (N : Nat) (r_place : St → Int → Int → Option Rs) (r_headAsked : St → Int → Int → Option Rs) (e : Nat) (hr_place : ∀ d, e ≤ d → ∀ (s : St) (a0 a1 : Int) (R : Rs), r_place s a0 a1 = some R → vT sc d 175 0 [(0, .ref 77), (1, vi a0), (2, vi a1)] [] s (fun r => r = qI R)) (hr_headAsked : ∀ d, e ≤ d → ∀ (s : St) (a0 a1 : Int) (R : Rs), r_headAsked s a0 a1 = some R → vT sc d 140 0 [(0, .ref 77), (1, vi a0), (2, vi a1)] [] s (fun r => r = qI R)) (hd : e + 3 ≤ d)   (s : St) (x1 : Int) (x2 : Int) (x3 : Int) : d_x8_tellsPlace_84 N r_place r_headAsked  s x1 x2 x3 = some R → vT sc d 189 84 [(0, .ref 77), (1, vi x1), (2, vi x2), (3, vi x3)] [] s (fun r => r = qI R) := by
  obtain ⟨d, rfl⟩ : ∃ d', d = d' + 1 := ⟨d - 1, by omega⟩
  unfold d_x8_tellsPlace_84
  refine vLin 85 i189_84 rfl rfl ?_
  refine vKb 87 i189_85 (by decide) rfl ?_
  refine vCne 106 90 rfl (show w32 12 = 12 from rfl) i189_87 rfl rfl ?_ ?_
  · exact fun hD => c_x8_tellsPlace_106 N r_place r_headAsked e hr_place hr_headAsked hd  s x1 x2 x3 hD
  · refine vLin 91 i189_90 rfl rfl ?_
    refine vZne 106 94 rfl i189_91 rfl rfl ?_ ?_
    · exact fun hD => c_x8_tellsPlace_106 N r_place r_headAsked e hr_place hr_headAsked hd  s x1 x2 x3 hD
    · exact fun hD => tLc [(3, vi x3)] (xNdk [3] rfl (by decide)) (xNdk [0, 1, 2, 3] rfl (by decide)) ⟨rfl, trivial⟩ (c_x8_tellsPlace_94 N r_place r_headAsked e hr_place hr_headAsked hd  s x3 hD)
def d_x8_tellsPlace_46 (N : Nat) (r_place : St → Int → Int → Option Rs) (r_headAsked : St → Int → Int → Option Rs)  (s : St) (x1 : Int) (x2 : Int) : Option Rs :=
  bI (d_x8_keeps N r_place r_headAsked s x1 x2) fun s11 v12 => some (s11, v12)
set_option maxHeartbeats 4000000 in
set_option maxRecDepth 100000 in
theorem c_x8_tellsPlace_46 {sc : xS} {d : Nat} {R : Rs} (N : Nat) (r_place : St → Int → Int → Option Rs) (r_headAsked : St → Int → Int → Option Rs) (e : Nat) (hr_place : ∀ d, e ≤ d → ∀ (s : St) (a0 a1 : Int) (R : Rs), r_place s a0 a1 = some R → vT sc d 175 0 [(0, .ref 77), (1, vi a0), (2, vi a1)] [] s (fun r => r = qI R)) (hr_headAsked : ∀ d, e ≤ d → ∀ (s : St) (a0 a1 : Int) (R : Rs), r_headAsked s a0 a1 = some R → vT sc d 140 0 [(0, .ref 77), (1, vi a0), (2, vi a1)] [] s (fun r => r = qI R)) (hd : e + 3 ≤ d)   (s : St) (x1 : Int) (x2 : Int) : d_x8_tellsPlace_46 N r_place r_headAsked  s x1 x2 = some R → vT sc d 189 46 [(0, .ref 77), (1, vi x1), (2, vi x2)] [] s (fun r => r = qI R) := by
  obtain ⟨d, rfl⟩ : ∃ d', d = d' + 1 := ⟨d - 1, by omega⟩
  unfold d_x8_tellsPlace_46
  refine vLan 47 i189_46 rfl rfl ?_
  refine vLin 48 i189_47 rfl rfl ?_
  refine vLin 49 i189_48 rfl rfl ?_
  refine vCallI 52 [.ref 77, vi x1, vi x2] [] [(0, .ref 77), (1, vi x1), (2, vi x2)] i189_49 rfl (xlk0 l189_336) (Or.inl rfl) m157 rfl rfl (Nat.le_of_ble_eq_true rfl) (Nat.le_of_ble_eq_true rfl) (Nat.le_of_ble_eq_true rfl) (xh0 sh_77 (by decide)) rfl rfl (fun R1 => c_x8_keeps N r_place r_headAsked e hr_place hr_headAsked (by omega) s x1 x2) (fun s11 v12 => ?_)
  exact vRi i189_52 m189 rfl
def d_x8_tellsPlace (N : Nat) (r_place : St → Int → Int → Option Rs) (r_headAsked : St → Int → Int → Option Rs)  (s : St) (a0 : Int) (a1 : Int) : Option Rs :=
  if 0 ≤ (w32 a0) ∧ (w32 a0) < ((192 : Nat) : Int) then bd (s 79 (Int.toNat (w32 a0))) fun v13 => (if (w32 v13) = 1 then some (s, 1) else (if (w32 v13) = 2 then if 0 ≤ (w32 a0) ∧ (w32 a0) < ((192 : Nat) : Int) then (if (w32 a1) < (w32 (s 84 (Int.toNat (w32 a0)))) then some (s, 1) else some (s, 0)) else none else (if (w32 v13) = 4 then d_x8_tellsPlace_46 N r_place r_headAsked  s a0 a1 else (if (w32 v13) = 11 then d_x8_tellsPlace_46 N r_place r_headAsked  s a0 a1 else (if (w32 v13) = 7 then bI (d_x8_merges N r_place r_headAsked s a0 a1) fun s14 v15 => some (s14, v15) else (if (w32 v13) = 8 then if 0 ≤ (w32 a0) ∧ (w32 a0) < ((192 : Nat) : Int) then (if (w32 a1) < (w64 (s 82 (Int.toNat (w32 a0)))) then d_x8_tellsPlace_84 N r_place r_headAsked  s a0 a1 v13 else d_x8_tellsPlace_94 N r_place r_headAsked  s v13) else none else d_x8_tellsPlace_84 N r_place r_headAsked  s a0 a1 v13)))))) else none
set_option maxHeartbeats 4000000 in
set_option maxRecDepth 100000 in
theorem c_x8_tellsPlace {sc : xS} {d : Nat} {R : Rs} (N : Nat) (r_place : St → Int → Int → Option Rs) (r_headAsked : St → Int → Int → Option Rs) (e : Nat) (hr_place : ∀ d, e ≤ d → ∀ (s : St) (a0 a1 : Int) (R : Rs), r_place s a0 a1 = some R → vT sc d 175 0 [(0, .ref 77), (1, vi a0), (2, vi a1)] [] s (fun r => r = qI R)) (hr_headAsked : ∀ d, e ≤ d → ∀ (s : St) (a0 a1 : Int) (R : Rs), r_headAsked s a0 a1 = some R → vT sc d 140 0 [(0, .ref 77), (1, vi a0), (2, vi a1)] [] s (fun r => r = qI R)) (hd : e + 3 ≤ d)   (s : St) (a0 : Int) (a1 : Int) : d_x8_tellsPlace N r_place r_headAsked  s a0 a1 = some R → vT sc d 189 0 [(0, .ref 77), (1, vi a0), (2, vi a1)] [] s (fun r => r = qI R) := by
  obtain ⟨d, rfl⟩ : ∃ d', d = d' + 1 := ⟨d - 1, by omega⟩
  unfold d_x8_tellsPlace
  refine vLan 1 i189_0 rfl rfl ?_
  refine vGetC 4 i189_1 f189_17 sh_77 rfl rfl ?_
  refine vLin 5 i189_4 rfl rfl ?_
  refine vIal 6 rfl i189_5 sh_79 rfl ?_
  refine vSin 7 (fun v13 => [(3, vi v13), (0, .ref 77), (1, vi a0), (2, vi a1)]) i189_6 m189 (by decide) (fun v13 => (rfl : xst1 [(0, .ref 77), (1, vi a0), (2, vi a1)] 3 (vi v13) = [(3, vi v13), (0, .ref 77), (1, vi a0), (2, vi a1)])) rfl (fun v13 => ?_)
  refine vLin 8 i189_7 rfl rfl ?_
  refine vK 9 i189_8 rfl ?_
  refine vCne 14 12 rfl (show w32 1 = 1 from rfl) i189_9 rfl rfl ?_ ?_
  · refine vLin 15 i189_14 rfl rfl ?_
    refine vK 16 i189_15 rfl ?_
    refine vCne 35 19 rfl (show w32 2 = 2 from rfl) i189_16 rfl rfl ?_ ?_
    · refine vLin 36 i189_35 rfl rfl ?_
      refine vK 37 i189_36 rfl ?_
      refine vCeq 46 40 rfl (show w32 4 = 4 from rfl) i189_37 rfl rfl ?_ ?_
      · exact fun hD => tLc [(0, .ref 77), (1, vi a0), (2, vi a1)] (xNdk [0, 1, 2] rfl (by decide)) (xNdk [3, 0, 1, 2] rfl (by decide)) ⟨rfl, rfl, rfl, trivial⟩ (c_x8_tellsPlace_46 N r_place r_headAsked e hr_place hr_headAsked hd  s a0 a1 hD)
      · refine vLin 41 i189_40 rfl rfl ?_
        refine vKb 43 i189_41 (by decide) rfl ?_
        refine vCne 53 46 rfl (show w32 11 = 11 from rfl) i189_43 rfl rfl ?_ ?_
        · refine vLin 54 i189_53 rfl rfl ?_
          refine vKb 56 i189_54 (by decide) rfl ?_
          refine vCne 66 59 rfl (show w32 7 = 7 from rfl) i189_56 rfl rfl ?_ ?_
          · refine vLin 67 i189_66 rfl rfl ?_
            refine vKb 69 i189_67 (by decide) rfl ?_
            refine vCne 84 72 rfl (show w32 8 = 8 from rfl) i189_69 rfl rfl ?_ ?_
            · exact fun hD => tLc [(0, .ref 77), (1, vi a0), (2, vi a1), (3, vi v13)] (xNdk [0, 1, 2, 3] rfl (by decide)) (xNdk [3, 0, 1, 2] rfl (by decide)) ⟨rfl, rfl, rfl, rfl, trivial⟩ (c_x8_tellsPlace_84 N r_place r_headAsked e hr_place hr_headAsked hd  s a0 a1 v13 hD)
            · refine vLin 73 i189_72 rfl rfl ?_
              refine vI2l 74 i189_73 rfl ?_
              refine vLan 75 i189_74 rfl rfl ?_
              refine vGetC 78 i189_75 f189_26 sh_77 rfl rfl ?_
              refine vLin 79 i189_78 rfl rfl ?_
              refine vLal 80 rfl i189_79 sh_82 rfl ?_
              refine vLcge 94 81 84 (w64w32 _) rfl i189_80 rfl i189_81 rfl rfl ?_ ?_
              · exact fun hD => tLc [(3, vi v13)] (xNdk [3] rfl (by decide)) (xNdk [3, 0, 1, 2] rfl (by decide)) ⟨rfl, trivial⟩ (c_x8_tellsPlace_94 N r_place r_headAsked e hr_place hr_headAsked hd  s v13 hD)
              · exact fun hD => tLc [(0, .ref 77), (1, vi a0), (2, vi a1), (3, vi v13)] (xNdk [0, 1, 2, 3] rfl (by decide)) (xNdk [3, 0, 1, 2] rfl (by decide)) ⟨rfl, rfl, rfl, rfl, trivial⟩ (c_x8_tellsPlace_84 N r_place r_headAsked e hr_place hr_headAsked hd  s a0 a1 v13 hD)
          · refine vLan 60 i189_59 rfl rfl ?_
            refine vLin 61 i189_60 rfl rfl ?_
            refine vLin 62 i189_61 rfl rfl ?_
            refine vCallI 65 [.ref 77, vi a0, vi a1] [] [(0, .ref 77), (1, vi a0), (2, vi a1)] i189_62 rfl (xlk0 l189_339) (Or.inl rfl) m165 rfl rfl (Nat.le_of_ble_eq_true rfl) (Nat.le_of_ble_eq_true rfl) (Nat.le_of_ble_eq_true rfl) (xh0 sh_77 (by decide)) rfl rfl (fun R1 => c_x8_merges N r_place r_headAsked e hr_place hr_headAsked (by omega) s a0 a1) (fun s14 v15 => ?_)
            exact vRi i189_65 m189 rfl
        · exact fun hD => tLc [(0, .ref 77), (1, vi a0), (2, vi a1)] (xNdk [0, 1, 2] rfl (by decide)) (xNdk [3, 0, 1, 2] rfl (by decide)) ⟨rfl, rfl, rfl, trivial⟩ (c_x8_tellsPlace_46 N r_place r_headAsked e hr_place hr_headAsked hd  s a0 a1 hD)
    · refine vLin 20 i189_19 rfl rfl ?_
      refine vLan 21 i189_20 rfl rfl ?_
      refine vGetC 24 i189_21 f189_33 sh_77 rfl rfl ?_
      refine vLin 25 i189_24 rfl rfl ?_
      refine vIal 26 rfl i189_25 sh_84 rfl ?_
      refine vCge 33 29 rfl rfl i189_26 rfl rfl ?_ ?_
      · refine vK 34 i189_33 rfl ?_
        exact vRi i189_34 m189 rfl
      · refine vK 30 i189_29 rfl ?_
        refine vGo 34 i189_30 rfl ?_
        exact vRi i189_34 m189 rfl
  · refine vK 13 i189_12 rfl ?_
    exact vRi i189_13 m189 rfl
