theorem f134_17 : xFld xg 134 17 = some (7, 2) := by decide +kernel
theorem f134_26 : xFld xg 134 26 = some (7, 5) := by decide +kernel
theorem f134_13 : xFld xg 134 13 = some (7, 1) := by decide +kernel
theorem i134_4 : xIns xg 134 4 = some (.iload_n 3) := by decide +kernel
theorem i134_5 : xIns xg 134 5 = some (.bipush 8) := by decide +kernel
theorem i134_7 : xIns xg 134 7 = some (.if_icmp .gt 48) := by decide +kernel
theorem i134_55 : xIns xg 134 55 = some (.bipush (-21)) := by decide +kernel
theorem i134_57 : xIns xg 134 57 = some (.ireturn) := by decide +kernel
theorem m134 : (xMet xg 134).2.2 = (5, (some .int)) := by decide +kernel
theorem i134_10 : xIns xg 134 10 = some (.aload_n 0) := by decide +kernel
theorem i134_11 : xIns xg 134 11 = some (.getfield 17) := by decide +kernel
theorem i134_14 : xIns xg 134 14 = some (.iload_n 2) := by decide +kernel
theorem i134_15 : xIns xg 134 15 = some (.iaload) := by decide +kernel
theorem i134_16 : xIns xg 134 16 = some (.ifCond .eq 5) := by decide +kernel
theorem i134_21 : xIns xg 134 21 = some (.aload_n 0) := by decide +kernel
theorem i134_22 : xIns xg 134 22 = some (.getfield 26) := by decide +kernel
theorem i134_25 : xIns xg 134 25 = some (.iload_n 2) := by decide +kernel
theorem i134_26 : xIns xg 134 26 = some (.laload) := by decide +kernel
theorem i134_27 : xIns xg 134 27 = some (.l2i) := by decide +kernel
theorem i134_28 : xIns xg 134 28 = some (.istore 4) := by decide +kernel
theorem i134_30 : xIns xg 134 30 = some (.aload_n 0) := by decide +kernel
theorem i134_31 : xIns xg 134 31 = some (.getfield 13) := by decide +kernel
theorem i134_34 : xIns xg 134 34 = some (.iload 4) := by decide +kernel
theorem i134_36 : xIns xg 134 36 = some (.iaload) := by decide +kernel
theorem i134_37 : xIns xg 134 37 = some (.ifCond .ne 6) := by decide +kernel
theorem i134_43 : xIns xg 134 43 = some (.bipush 24) := by decide +kernel
theorem i134_45 : xIns xg 134 45 = some (.iload 4) := by decide +kernel
theorem i134_47 : xIns xg 134 47 = some (.imul) := by decide +kernel
theorem i134_48 : xIns xg 134 48 = some (.istore_n 2) := by decide +kernel
theorem i134_49 : xIns xg 134 49 = some (.iinc 3 1) := by decide +kernel
theorem i134_52 : xIns xg 134 52 = some (.goto (-48)) := by decide +kernel
theorem i134_40 : xIns xg 134 40 = some (.bipush (-23)) := by decide +kernel
theorem i134_42 : xIns xg 134 42 = some (.ireturn) := by decide +kernel
theorem i134_19 : xIns xg 134 19 = some (.iload_n 2) := by decide +kernel
theorem i134_20 : xIns xg 134 20 = some (.ireturn) := by decide +kernel
theorem i134_0 : xIns xg 134 0 = some (.iload_n 1) := by decide +kernel
theorem i134_1 : xIns xg 134 1 = some (.istore_n 2) := by decide +kernel
theorem i134_2 : xIns xg 134 2 = some (.iconst 0) := by decide +kernel
theorem i134_3 : xIns xg 134 3 = some (.istore_n 3) := by decide +kernel
def d_x8_followed_4 (N : Nat)  (k4 : St → Int → Int → Option Rs) (s : St) (x2 : Int) (x3 : Int) : Option Rs :=
  (if 8 < (w32 x3) then some (s, (-21)) else if 0 ≤ (w32 x2) ∧ (w32 x2) < ((192 : Nat) : Int) then (if (w32 (s 79 (Int.toNat (w32 x2)))) = 0 then if 0 ≤ (w32 x2) ∧ (w32 x2) < ((192 : Nat) : Int) then bd (s 82 (Int.toNat (w32 x2))) fun v1 => if 0 ≤ (w32 v1) ∧ (w32 v1) < ((8 : Nat) : Int) then (if (w32 (s 78 (Int.toNat (w32 v1)))) = 0 then some (s, (-23)) else bd (24 * v1) fun v2 => bd (x3 + 1) fun v3 => k4 s v2 v3) else none else none else some (s, x2)) else none)
def d_x8_followed_4L (N : Nat)  : Nat → St → Int → Int → Option Rs
  | 0 => fun _ _ _ => none
  | n + 1 => d_x8_followed_4 N  (d_x8_followed_4L N  n)
set_option maxHeartbeats 4000000 in
set_option maxRecDepth 100000 in
theorem c_x8_followed_4 {sc : xS} {d : Nat} {R : Rs} (N : Nat)  (hd : 0 ≤ d)   (k4 : St → Int → Int → Option Rs) (hk4 : ∀ (s : St) (x2 : Int) (x3 : Int), k4 s x2 x3 = some R → vT sc d 134 4 [(0, .ref 77), (2, vi x2), (3, vi x3)] [] s (fun r => r = qI R)) (s : St) (x2 : Int) (x3 : Int) : d_x8_followed_4 N  k4 s x2 x3 = some R → vT sc d 134 4 [(0, .ref 77), (2, vi x2), (3, vi x3)] [] s (fun r => r = qI R) := by
  unfold d_x8_followed_4
  refine vLin 5 i134_4 rfl rfl ?_
  refine vKb 7 i134_5 (by decide) rfl ?_
  refine vCgt 55 10 rfl (show w32 8 = 8 from rfl) i134_7 rfl rfl ?_ ?_
  · refine vKb 57 i134_55 (by decide) rfl ?_
    exact vRi i134_57 m134 rfl
  · refine vLan 11 i134_10 rfl rfl ?_
    refine vGetC 14 i134_11 f134_17 sh_77 rfl rfl ?_
    refine vLin 15 i134_14 rfl rfl ?_
    refine vIal 16 rfl i134_15 sh_79 rfl ?_
    refine vZeq 21 19 rfl i134_16 rfl rfl ?_ ?_
    · refine vLan 22 i134_21 rfl rfl ?_
      refine vGetC 25 i134_22 f134_26 sh_77 rfl rfl ?_
      refine vLin 26 i134_25 rfl rfl ?_
      refine vLal 27 rfl i134_26 sh_82 rfl ?_
      refine vL2i 28 i134_27 rfl ?_
      refine vSi 30 (fun v1 => [(4, vi v1), (0, .ref 77), (2, vi x2), (3, vi x3)]) i134_28 m134 (by decide) (fun v1 => (rfl : xst1 [(0, .ref 77), (2, vi x2), (3, vi x3)] 4 (vi v1) = [(4, vi v1), (0, .ref 77), (2, vi x2), (3, vi x3)])) rfl (fun v1 => ?_)
      refine vLan 31 i134_30 rfl rfl ?_
      refine vGetC 34 i134_31 f134_13 sh_77 rfl rfl ?_
      refine vLi 36 i134_34 rfl rfl ?_
      refine vIal 37 rfl i134_36 sh_78 rfl ?_
      refine vZne 43 40 rfl i134_37 rfl rfl ?_ ?_
      · refine vKb 45 i134_43 (by decide) rfl ?_
        refine vLi 47 i134_45 rfl rfl ?_
        refine vImul 48 i134_47 rfl ?_
        refine vSin 49 (fun v2 => [(2, vi v2), (4, vi v1), (0, .ref 77), (3, vi x3)]) i134_48 m134 (by decide) (fun v2 => (rfl : xst1 [(4, vi v1), (0, .ref 77), (2, vi x2), (3, vi x3)] 2 (vi v2) = [(2, vi v2), (4, vi v1), (0, .ref 77), (3, vi x3)])) rfl (fun v2 => ?_)
        refine vInc 52 (fun v3 => [(3, vi v3), (2, vi v2), (4, vi v1), (0, .ref 77)]) i134_49 m134 (by decide) rfl (fun _ => rfl) rfl (fun v3 => ?_)
        refine vGo 4 i134_52 rfl ?_
        exact fun hD => tLc [(0, .ref 77), (2, vi v2), (3, vi v3)] (xNdk [0, 2, 3] rfl (by decide)) (xNdk [3, 2, 4, 0] rfl (by decide)) ⟨rfl, rfl, rfl, trivial⟩ (hk4 s v2 v3 hD)
      · refine vKb 42 i134_40 (by decide) rfl ?_
        exact vRi i134_42 m134 rfl
    · refine vLin 20 i134_19 rfl rfl ?_
      exact vRi i134_20 m134 rfl
theorem c_x8_followed_4L {sc : xS} {d : Nat} {R : Rs} (N : Nat)  (hd : 0 ≤ d)   : ∀ (n : Nat) (s : St) (x2 : Int) (x3 : Int), d_x8_followed_4L N  n s x2 x3 = some R → vT sc d 134 4 [(0, .ref 77), (2, vi x2), (3, vi x3)] [] s (fun r => r = qI R) := by
  intro n
  induction n with
  | zero => intro s x2 x3 hD; cases hD
  | succ n ih => intro s x2 x3 hD; exact c_x8_followed_4 N  hd  _ ih s x2 x3 hD
def d_x8_followed (N : Nat)  (s : St) (a0 : Int) : Option Rs :=
  d_x8_followed_4L N  N s a0 0
set_option maxHeartbeats 4000000 in
set_option maxRecDepth 100000 in
theorem c_x8_followed {sc : xS} {d : Nat} {R : Rs} (N : Nat)  (hd : 0 ≤ d)   (s : St) (a0 : Int) : d_x8_followed N  s a0 = some R → vT sc d 134 0 [(0, .ref 77), (1, vi a0)] [] s (fun r => r = qI R) := by
  unfold d_x8_followed
  refine vLin 1 i134_0 rfl rfl ?_
  refine vSin0 2 [(2, vi a0), (0, .ref 77), (1, vi a0)] i134_1 m134 (by decide) rfl rfl ?_
  refine vK 3 i134_2 rfl ?_
  refine vSin0 4 [(3, vi 0), (2, vi a0), (0, .ref 77), (1, vi a0)] i134_3 m134 (by decide) rfl rfl ?_
  exact fun hD => tLc [(0, .ref 77), (2, vi a0), (3, vi 0)] (xNdk [0, 2, 3] rfl (by decide)) (xNdk [3, 2, 0, 1] rfl (by decide)) ⟨rfl, rfl, rfl, trivial⟩ (c_x8_followed_4L N  hd  N s a0 0 hD)
theorem f140_58 : xFld xg 140 58 = some (7, 15) := by decide +kernel
theorem f140_326 : xFld xg 140 326 = some (7, 36) := by decide +kernel
theorem f140_329 : xFld xg 140 329 = some (7, 37) := by decide +kernel
theorem f140_61 : xFld xg 140 61 = some (7, 16) := by decide +kernel
theorem f140_351 : xFld xg 140 351 = some (7, 38) := by decide +kernel
theorem i140_135 : xIns xg 140 135 = some (.iastore) := by decide +kernel
theorem i140_136 : xIns xg 140 136 = some (.aload_n 0) := by decide +kernel
theorem i140_137 : xIns xg 140 137 = some (.getfield 61) := by decide +kernel
theorem i140_140 : xIns xg 140 140 = some (.iload 4) := by decide +kernel
theorem i140_142 : xIns xg 140 142 = some (.aload_n 0) := by decide +kernel
theorem i140_143 : xIns xg 140 143 = some (.getfield 351) := by decide +kernel
theorem i140_146 : xIns xg 140 146 = some (.lastore) := by decide +kernel
theorem i140_147 : xIns xg 140 147 = some (.iload 5) := by decide +kernel
theorem i140_149 : xIns xg 140 149 = some (.ireturn) := by decide +kernel
theorem i140_42 : xIns xg 140 42 = some (.aload_n 0) := by decide +kernel
theorem i140_43 : xIns xg 140 43 = some (.getfield 58) := by decide +kernel
theorem i140_46 : xIns xg 140 46 = some (.iload 4) := by decide +kernel
theorem i140_48 : xIns xg 140 48 = some (.iaload) := by decide +kernel
theorem i140_49 : xIns xg 140 49 = some (.ifCond .eq 27) := by decide +kernel
theorem i140_76 : xIns xg 140 76 = some (.aload_n 0) := by decide +kernel
theorem i140_77 : xIns xg 140 77 = some (.getfield 326) := by decide +kernel
theorem i140_80 : xIns xg 140 80 = some (.aload_n 0) := by decide +kernel
theorem i140_81 : xIns xg 140 81 = some (.getfield 329) := by decide +kernel
theorem i140_84 : xIns xg 140 84 = some (.if_icmp .ne 6) := by decide +kernel
theorem i140_90 : xIns xg 140 90 = some (.aload_n 0) := by decide +kernel
theorem i140_91 : xIns xg 140 91 = some (.dup) := by decide +kernel
theorem i140_92 : xIns xg 140 92 = some (.getfield 326) := by decide +kernel
theorem i140_95 : xIns xg 140 95 = some (.iconst 1) := by decide +kernel
theorem i140_96 : xIns xg 140 96 = some (.iadd) := by decide +kernel
theorem i140_97 : xIns xg 140 97 = some (.putfield 326) := by decide +kernel
theorem p140_326 : xPut xg 140 326 = some (7, 36, .int) := by decide +kernel
theorem i140_100 : xIns xg 140 100 = some (.aload_n 0) := by decide +kernel
theorem i140_101 : xIns xg 140 101 = some (.getfield 58) := by decide +kernel
theorem i140_104 : xIns xg 140 104 = some (.iload 4) := by decide +kernel
theorem i140_106 : xIns xg 140 106 = some (.iconst 2) := by decide +kernel
theorem i140_107 : xIns xg 140 107 = some (.iastore) := by decide +kernel
theorem i140_108 : xIns xg 140 108 = some (.aload_n 0) := by decide +kernel
theorem i140_109 : xIns xg 140 109 = some (.iload_n 3) := by decide +kernel
theorem i140_110 : xIns xg 140 110 = some (.iload_n 2) := by decide +kernel
theorem i140_111 : xIns xg 140 111 = some (.invokevirtual 363) := by decide +kernel
theorem i140_114 : xIns xg 140 114 = some (.istore 5) := by decide +kernel
theorem i140_116 : xIns xg 140 116 = some (.aload_n 0) := by decide +kernel
theorem i140_117 : xIns xg 140 117 = some (.getfield 58) := by decide +kernel
theorem i140_120 : xIns xg 140 120 = some (.iload 4) := by decide +kernel
theorem i140_122 : xIns xg 140 122 = some (.iload 5) := by decide +kernel
theorem i140_124 : xIns xg 140 124 = some (.bipush (-6)) := by decide +kernel
theorem i140_126 : xIns xg 140 126 = some (.if_icmp .ne 7) := by decide +kernel
theorem i140_133 : xIns xg 140 133 = some (.iload 5) := by decide +kernel
theorem i140_129 : xIns xg 140 129 = some (.iconst 0) := by decide +kernel
theorem i140_130 : xIns xg 140 130 = some (.goto 5) := by decide +kernel
theorem i140_87 : xIns xg 140 87 = some (.bipush (-6)) := by decide +kernel
theorem i140_89 : xIns xg 140 89 = some (.ireturn) := by decide +kernel
theorem i140_52 : xIns xg 140 52 = some (.aload_n 0) := by decide +kernel
theorem i140_53 : xIns xg 140 53 = some (.getfield 58) := by decide +kernel
theorem i140_56 : xIns xg 140 56 = some (.iload 4) := by decide +kernel
theorem i140_58 : xIns xg 140 58 = some (.iaload) := by decide +kernel
theorem i140_59 : xIns xg 140 59 = some (.iconst 2) := by decide +kernel
theorem i140_60 : xIns xg 140 60 = some (.if_icmp .ne 8) := by decide +kernel
theorem i140_68 : xIns xg 140 68 = some (.aload_n 0) := by decide +kernel
theorem i140_69 : xIns xg 140 69 = some (.getfield 58) := by decide +kernel
theorem i140_72 : xIns xg 140 72 = some (.iload 4) := by decide +kernel
theorem i140_74 : xIns xg 140 74 = some (.iaload) := by decide +kernel
theorem i140_75 : xIns xg 140 75 = some (.ireturn) := by decide +kernel
theorem i140_63 : xIns xg 140 63 = some (.bipush (-21)) := by decide +kernel
theorem i140_65 : xIns xg 140 65 = some (.goto 10) := by decide +kernel
theorem i140_0 : xIns xg 140 0 = some (.aload_n 0) := by decide +kernel
theorem i140_1 : xIns xg 140 1 = some (.iload_n 1) := by decide +kernel
theorem i140_2 : xIns xg 140 2 = some (.invokevirtual 323) := by decide +kernel
theorem i140_5 : xIns xg 140 5 = some (.istore_n 3) := by decide +kernel
theorem i140_6 : xIns xg 140 6 = some (.iload_n 3) := by decide +kernel
theorem i140_7 : xIns xg 140 7 = some (.ifCond .ge 5) := by decide +kernel
theorem i140_12 : xIns xg 140 12 = some (.bipush 64) := by decide +kernel
theorem i140_14 : xIns xg 140 14 = some (.iload_n 3) := by decide +kernel
theorem i140_15 : xIns xg 140 15 = some (.imul) := by decide +kernel
theorem i140_16 : xIns xg 140 16 = some (.iload_n 2) := by decide +kernel
theorem i140_17 : xIns xg 140 17 = some (.iadd) := by decide +kernel
theorem i140_18 : xIns xg 140 18 = some (.istore 4) := by decide +kernel
theorem i140_20 : xIns xg 140 20 = some (.aload_n 0) := by decide +kernel
theorem i140_21 : xIns xg 140 21 = some (.getfield 58) := by decide +kernel
theorem i140_24 : xIns xg 140 24 = some (.iload 4) := by decide +kernel
theorem i140_26 : xIns xg 140 26 = some (.iaload) := by decide +kernel
theorem i140_27 : xIns xg 140 27 = some (.iconst 1) := by decide +kernel
theorem i140_28 : xIns xg 140 28 = some (.if_icmp .ne 14) := by decide +kernel
theorem i140_31 : xIns xg 140 31 = some (.aload_n 0) := by decide +kernel
theorem i140_32 : xIns xg 140 32 = some (.aload_n 0) := by decide +kernel
theorem i140_33 : xIns xg 140 33 = some (.getfield 61) := by decide +kernel
theorem i140_36 : xIns xg 140 36 = some (.iload 4) := by decide +kernel
theorem i140_38 : xIns xg 140 38 = some (.laload) := by decide +kernel
theorem i140_39 : xIns xg 140 39 = some (.putfield 351) := by decide +kernel
theorem p140_351 : xPut xg 140 351 = some (7, 38, .long) := by decide +kernel
theorem i140_10 : xIns xg 140 10 = some (.iload_n 3) := by decide +kernel
theorem i140_11 : xIns xg 140 11 = some (.ireturn) := by decide +kernel
def d_x8_headAsked_135 (N : Nat) (r_place : St → Int → Int → Option Rs) (r_headAsked : St → Int → Int → Option Rs)  (s : St) (x4 : Int) (x5 : Int) (z0 : Int) (z1 : Int) : Option Rs :=
  if 0 ≤ (w32 z1) ∧ (w32 z1) < ((12288 : Nat) : Int) then bd (up s 91 (Int.toNat (w32 z1)) z0) fun s1 => if 0 ≤ (w32 x4) ∧ (w32 x4) < ((12288 : Nat) : Int) then bd (up s1 92 (Int.toNat (w32 x4)) (s1 77 38)) fun s2 => some (s2, x5) else none else none
set_option maxHeartbeats 4000000 in
set_option maxRecDepth 100000 in
theorem c_x8_headAsked_135 {sc : xS} {d : Nat} {R : Rs} (N : Nat) (r_place : St → Int → Int → Option Rs) (r_headAsked : St → Int → Int → Option Rs) (e : Nat) (hr_place : ∀ d, e ≤ d → ∀ (s : St) (a0 a1 : Int) (R : Rs), r_place s a0 a1 = some R → vT sc d 175 0 [(0, .ref 77), (1, vi a0), (2, vi a1)] [] s (fun r => r = qI R)) (hr_headAsked : ∀ d, e ≤ d → ∀ (s : St) (a0 a1 : Int) (R : Rs), r_headAsked s a0 a1 = some R → vT sc d 140 0 [(0, .ref 77), (1, vi a0), (2, vi a1)] [] s (fun r => r = qI R)) (hd : e + 3 ≤ d)   (s : St) (x4 : Int) (x5 : Int) (z0 : Int) (z1 : Int) : d_x8_headAsked_135 N r_place r_headAsked  s x4 x5 z0 z1 = some R → vT sc d 140 135 [(0, .ref 77), (4, vi x4), (5, vi x5)] [vi z0, vi z1, .ref 91] s (fun r => r = qI R) := by
  obtain ⟨d, rfl⟩ : ∃ d', d = d' + 1 := ⟨d - 1, by omega⟩
  unfold d_x8_headAsked_135
  refine vIas 136 rfl i140_135 sh_91 rfl (fun s1 => ?_)
  refine vLan 137 i140_136 rfl rfl ?_
  refine vGetC 140 i140_137 f140_61 sh_77 rfl rfl ?_
  refine vLi 142 i140_140 rfl rfl ?_
  refine vLan 143 i140_142 rfl rfl ?_
  refine vGetL 146 i140_143 f140_351 sh_77 rfl rfl ?_
  refine vLas 147 rfl i140_146 sh_92 rfl (fun s2 => ?_)
  refine vLi 149 i140_147 rfl rfl ?_
  exact vRi i140_149 m140 rfl
def d_x8_headAsked_42 (N : Nat) (r_place : St → Int → Int → Option Rs) (r_headAsked : St → Int → Int → Option Rs)  (s : St) (x2 : Int) (x3 : Int) (x4 : Int) : Option Rs :=
  if 0 ≤ (w32 x4) ∧ (w32 x4) < ((12288 : Nat) : Int) then (if (w32 (s 91 (Int.toNat (w32 x4)))) = 0 then (if (w32 (s 77 36)) = (w32 (s 77 37)) then some (s, (-6)) else bd (up s 77 36 ((s 77 36) + 1)) fun s3 => if 0 ≤ (w32 x4) ∧ (w32 x4) < ((12288 : Nat) : Int) then bd (up s3 91 (Int.toNat (w32 x4)) 2) fun s4 => bI (d_x8_tellsHead N r_place r_headAsked s4 x3 x2) fun s5 v6 => (if (w32 v6) = (-6) then d_x8_headAsked_135 N r_place r_headAsked  s5 x4 v6 0 x4 else d_x8_headAsked_135 N r_place r_headAsked  s5 x4 v6 v6 x4) else none) else if 0 ≤ (w32 x4) ∧ (w32 x4) < ((12288 : Nat) : Int) then (if (w32 (s 91 (Int.toNat (w32 x4)))) = 2 then some (s, (-21)) else if 0 ≤ (w32 x4) ∧ (w32 x4) < ((12288 : Nat) : Int) then some (s, (s 91 (Int.toNat (w32 x4)))) else none) else none) else none
set_option maxHeartbeats 4000000 in
set_option maxRecDepth 100000 in
theorem c_x8_headAsked_42 {sc : xS} {d : Nat} {R : Rs} (N : Nat) (r_place : St → Int → Int → Option Rs) (r_headAsked : St → Int → Int → Option Rs) (e : Nat) (hr_place : ∀ d, e ≤ d → ∀ (s : St) (a0 a1 : Int) (R : Rs), r_place s a0 a1 = some R → vT sc d 175 0 [(0, .ref 77), (1, vi a0), (2, vi a1)] [] s (fun r => r = qI R)) (hr_headAsked : ∀ d, e ≤ d → ∀ (s : St) (a0 a1 : Int) (R : Rs), r_headAsked s a0 a1 = some R → vT sc d 140 0 [(0, .ref 77), (1, vi a0), (2, vi a1)] [] s (fun r => r = qI R)) (hd : e + 3 ≤ d)   (s : St) (x2 : Int) (x3 : Int) (x4 : Int) : d_x8_headAsked_42 N r_place r_headAsked  s x2 x3 x4 = some R → vT sc d 140 42 [(0, .ref 77), (2, vi x2), (3, vi x3), (4, vi x4)] [] s (fun r => r = qI R) := by
  obtain ⟨d, rfl⟩ : ∃ d', d = d' + 1 := ⟨d - 1, by omega⟩
  unfold d_x8_headAsked_42
  refine vLan 43 i140_42 rfl rfl ?_
  refine vGetC 46 i140_43 f140_58 sh_77 rfl rfl ?_
  refine vLi 48 i140_46 rfl rfl ?_
  refine vIal 49 rfl i140_48 sh_91 rfl ?_
  refine vZeq 76 52 rfl i140_49 rfl rfl ?_ ?_
  · refine vLan 77 i140_76 rfl rfl ?_
    refine vGet 80 i140_77 f140_326 sh_77 rfl rfl ?_
    refine vLan 81 i140_80 rfl rfl ?_
    refine vGet 84 i140_81 f140_329 sh_77 rfl rfl ?_
    refine vCne 90 87 rfl rfl i140_84 rfl rfl ?_ ?_
    · refine vLan 91 i140_90 rfl rfl ?_
      refine vD 92 i140_91 rfl rfl rfl ?_
      refine vGet 95 i140_92 f140_326 sh_77 rfl rfl ?_
      refine vK 96 i140_95 rfl ?_
      refine vIadd 97 i140_96 rfl ?_
      refine vPut 100 i140_97 p140_326 sh_77 rfl rfl (fun s3 => ?_)
      refine vLan 101 i140_100 rfl rfl ?_
      refine vGetC 104 i140_101 f140_58 sh_77 rfl rfl ?_
      refine vLi 106 i140_104 rfl rfl ?_
      refine vK 107 i140_106 rfl ?_
      refine vIas 108 rfl i140_107 sh_91 rfl (fun s4 => ?_)
      refine vLan 109 i140_108 rfl rfl ?_
      refine vLin 110 i140_109 rfl rfl ?_
      refine vLin 111 i140_110 rfl rfl ?_
      refine vCallI 114 [.ref 77, vi x3, vi x2] [] [(0, .ref 77), (1, vi x3), (2, vi x2)] i140_111 rfl (xlk0 l140_363) (Or.inl rfl) m188 rfl rfl (Nat.le_of_ble_eq_true rfl) (Nat.le_of_ble_eq_true rfl) (Nat.le_of_ble_eq_true rfl) (xh0 sh_77 (by decide)) rfl rfl (fun R1 => c_x8_tellsHead N r_place r_headAsked e hr_place hr_headAsked (by omega) s4 x3 x2) (fun s5 v6 => ?_)
      refine vSi0 116 [(5, vi v6), (0, .ref 77), (2, vi x2), (3, vi x3), (4, vi x4)] i140_114 m140 (by decide) rfl rfl ?_
      refine vLan 117 i140_116 rfl rfl ?_
      refine vGetC 120 i140_117 f140_58 sh_77 rfl rfl ?_
      refine vLi 122 i140_120 rfl rfl ?_
      refine vLi 124 i140_122 rfl rfl ?_
      refine vKb 126 i140_124 (by decide) rfl ?_
      refine vCne 133 129 rfl (show w32 (-6) = (-6) from rfl) i140_126 rfl rfl ?_ ?_
      · refine vLi 135 i140_133 rfl rfl ?_
        exact fun hD => tLc [(0, .ref 77), (4, vi x4), (5, vi v6)] (xNdk [0, 4, 5] rfl (by decide)) (xNdk [5, 0, 2, 3, 4] rfl (by decide)) ⟨rfl, rfl, rfl, trivial⟩ (c_x8_headAsked_135 N r_place r_headAsked e hr_place hr_headAsked hd  s5 x4 v6 v6 x4 hD)
      · refine vK 130 i140_129 rfl ?_
        refine vGo 135 i140_130 rfl ?_
        exact fun hD => tLc [(0, .ref 77), (4, vi x4), (5, vi v6)] (xNdk [0, 4, 5] rfl (by decide)) (xNdk [5, 0, 2, 3, 4] rfl (by decide)) ⟨rfl, rfl, rfl, trivial⟩ (c_x8_headAsked_135 N r_place r_headAsked e hr_place hr_headAsked hd  s5 x4 v6 0 x4 hD)
    · refine vKb 89 i140_87 (by decide) rfl ?_
      exact vRi i140_89 m140 rfl
  · refine vLan 53 i140_52 rfl rfl ?_
    refine vGetC 56 i140_53 f140_58 sh_77 rfl rfl ?_
    refine vLi 58 i140_56 rfl rfl ?_
    refine vIal 59 rfl i140_58 sh_91 rfl ?_
    refine vK 60 i140_59 rfl ?_
    refine vCne 68 63 rfl (show w32 2 = 2 from rfl) i140_60 rfl rfl ?_ ?_
    · refine vLan 69 i140_68 rfl rfl ?_
      refine vGetC 72 i140_69 f140_58 sh_77 rfl rfl ?_
      refine vLi 74 i140_72 rfl rfl ?_
      refine vIal 75 rfl i140_74 sh_91 rfl ?_
      exact vRi i140_75 m140 rfl
    · refine vKb 65 i140_63 (by decide) rfl ?_
      refine vGo 75 i140_65 rfl ?_
      exact vRi i140_75 m140 rfl
def d_x8_headAsked (N : Nat) (r_place : St → Int → Int → Option Rs) (r_headAsked : St → Int → Int → Option Rs)  (s : St) (a0 : Int) (a1 : Int) : Option Rs :=
  bI (d_x8_followed N  s a0) fun s7 v8 => (if (w32 v8) < 0 then some (s7, v8) else bd ((64 * v8) + a1) fun v9 => if 0 ≤ (w32 v9) ∧ (w32 v9) < ((12288 : Nat) : Int) then (if (w32 (s7 91 (Int.toNat (w32 v9)))) = 1 then if 0 ≤ (w32 v9) ∧ (w32 v9) < ((12288 : Nat) : Int) then bd (up s7 77 38 (s7 92 (Int.toNat (w32 v9)))) fun s10 => d_x8_headAsked_42 N r_place r_headAsked  s10 a1 v8 v9 else none else d_x8_headAsked_42 N r_place r_headAsked  s7 a1 v8 v9) else none)
set_option maxHeartbeats 4000000 in
set_option maxRecDepth 100000 in
theorem c_x8_headAsked {sc : xS} {d : Nat} {R : Rs} (N : Nat) (r_place : St → Int → Int → Option Rs) (r_headAsked : St → Int → Int → Option Rs) (e : Nat) (hr_place : ∀ d, e ≤ d → ∀ (s : St) (a0 a1 : Int) (R : Rs), r_place s a0 a1 = some R → vT sc d 175 0 [(0, .ref 77), (1, vi a0), (2, vi a1)] [] s (fun r => r = qI R)) (hr_headAsked : ∀ d, e ≤ d → ∀ (s : St) (a0 a1 : Int) (R : Rs), r_headAsked s a0 a1 = some R → vT sc d 140 0 [(0, .ref 77), (1, vi a0), (2, vi a1)] [] s (fun r => r = qI R)) (hd : e + 3 ≤ d)   (s : St) (a0 : Int) (a1 : Int) : d_x8_headAsked N r_place r_headAsked  s a0 a1 = some R → vT sc d 140 0 [(0, .ref 77), (1, vi a0), (2, vi a1)] [] s (fun r => r = qI R) := by
  obtain ⟨d, rfl⟩ : ∃ d', d = d' + 1 := ⟨d - 1, by omega⟩
  unfold d_x8_headAsked
  refine vLan 1 i140_0 rfl rfl ?_
  refine vLin 2 i140_1 rfl rfl ?_
  refine vCallI 5 [.ref 77, vi a0] [] [(0, .ref 77), (1, vi a0)] i140_2 rfl (xlk0 l140_323) (Or.inl rfl) m134 rfl rfl (Nat.le_of_ble_eq_true rfl) (Nat.le_of_ble_eq_true rfl) (Nat.le_of_ble_eq_true rfl) (xh0 sh_77 (by decide)) rfl rfl (fun R1 => c_x8_followed N   (by omega) s a0) (fun s7 v8 => ?_)
  refine vSin0 6 [(3, vi v8), (0, .ref 77), (1, vi a0), (2, vi a1)] i140_5 m140 (by decide) rfl rfl ?_
  refine vLin 7 i140_6 rfl rfl ?_
  refine vZge 12 10 rfl i140_7 rfl rfl ?_ ?_
  · refine vKb 14 i140_12 (by decide) rfl ?_
    refine vLin 15 i140_14 rfl rfl ?_
    refine vImul 16 i140_15 rfl ?_
    refine vLin 17 i140_16 rfl rfl ?_
    refine vIadd 18 i140_17 rfl ?_
    refine vSi 20 (fun v9 => [(4, vi v9), (3, vi v8), (0, .ref 77), (1, vi a0), (2, vi a1)]) i140_18 m140 (by decide) (fun v9 => (rfl : xst1 [(3, vi v8), (0, .ref 77), (1, vi a0), (2, vi a1)] 4 (vi v9) = [(4, vi v9), (3, vi v8), (0, .ref 77), (1, vi a0), (2, vi a1)])) rfl (fun v9 => ?_)
    refine vLan 21 i140_20 rfl rfl ?_
    refine vGetC 24 i140_21 f140_58 sh_77 rfl rfl ?_
    refine vLi 26 i140_24 rfl rfl ?_
    refine vIal 27 rfl i140_26 sh_91 rfl ?_
    refine vK 28 i140_27 rfl ?_
    refine vCne 42 31 rfl (show w32 1 = 1 from rfl) i140_28 rfl rfl ?_ ?_
    · exact fun hD => tLc [(0, .ref 77), (2, vi a1), (3, vi v8), (4, vi v9)] (xNdk [0, 2, 3, 4] rfl (by decide)) (xNdk [4, 3, 0, 1, 2] rfl (by decide)) ⟨rfl, rfl, rfl, rfl, trivial⟩ (c_x8_headAsked_42 N r_place r_headAsked e hr_place hr_headAsked hd  s7 a1 v8 v9 hD)
    · refine vLan 32 i140_31 rfl rfl ?_
      refine vLan 33 i140_32 rfl rfl ?_
      refine vGetC 36 i140_33 f140_61 sh_77 rfl rfl ?_
      refine vLi 38 i140_36 rfl rfl ?_
      refine vLal 39 rfl i140_38 sh_92 rfl ?_
      refine vPutL 42 i140_39 p140_351 sh_77 rfl rfl (fun s10 => ?_)
      exact fun hD => tLc [(0, .ref 77), (2, vi a1), (3, vi v8), (4, vi v9)] (xNdk [0, 2, 3, 4] rfl (by decide)) (xNdk [4, 3, 0, 1, 2] rfl (by decide)) ⟨rfl, rfl, rfl, rfl, trivial⟩ (c_x8_headAsked_42 N r_place r_headAsked e hr_place hr_headAsked hd  s10 a1 v8 v9 hD)
  · refine vLin 11 i140_10 rfl rfl ?_
    exact vRi i140_11 m140 rfl
theorem f175_45 : xFld xg 175 45 = some (7, 11) := by decide +kernel
theorem f175_42 : xFld xg 175 42 = some (7, 10) := by decide +kernel
theorem f175_48 : xFld xg 175 48 = some (7, 12) := by decide +kernel
theorem f175_326 : xFld xg 175 326 = some (7, 36) := by decide +kernel
theorem f175_329 : xFld xg 175 329 = some (7, 37) := by decide +kernel
theorem i175_163 : xIns xg 175 163 = some (.iload_n 2) := by decide +kernel
theorem i175_164 : xIns xg 175 164 = some (.aload_n 0) := by decide +kernel
theorem i175_165 : xIns xg 175 165 = some (.getfield 42) := by decide +kernel
theorem i175_168 : xIns xg 175 168 = some (.iload_n 3) := by decide +kernel
theorem i175_169 : xIns xg 175 169 = some (.iaload) := by decide +kernel
theorem i175_170 : xIns xg 175 170 = some (.if_icmp .ge 7) := by decide +kernel
theorem i175_177 : xIns xg 175 177 = some (.aload_n 0) := by decide +kernel
theorem i175_178 : xIns xg 175 178 = some (.getfield 45) := by decide +kernel
theorem i175_181 : xIns xg 175 181 = some (.iload_n 3) := by decide +kernel
theorem i175_182 : xIns xg 175 182 = some (.iaload) := by decide +kernel
theorem i175_183 : xIns xg 175 183 = some (.iconst 1) := by decide +kernel
theorem i175_184 : xIns xg 175 184 = some (.if_icmp .ne 7) := by decide +kernel
theorem i175_191 : xIns xg 175 191 = some (.aload_n 0) := by decide +kernel
theorem i175_192 : xIns xg 175 192 = some (.getfield 45) := by decide +kernel
theorem i175_195 : xIns xg 175 195 = some (.iload_n 3) := by decide +kernel
theorem i175_196 : xIns xg 175 196 = some (.iaload) := by decide +kernel
theorem i175_197 : xIns xg 175 197 = some (.ireturn) := by decide +kernel
theorem i175_187 : xIns xg 175 187 = some (.iconst 0) := by decide +kernel
theorem i175_188 : xIns xg 175 188 = some (.goto 9) := by decide +kernel
theorem i175_173 : xIns xg 175 173 = some (.iconst 1) := by decide +kernel
theorem i175_174 : xIns xg 175 174 = some (.goto 23) := by decide +kernel
theorem i175_159 : xIns xg 175 159 = some (.iastore) := by decide +kernel
theorem i175_160 : xIns xg 175 160 = some (.goto (-139)) := by decide +kernel
theorem i175_131 : xIns xg 175 131 = some (.iadd) := by decide +kernel
theorem i175_132 : xIns xg 175 132 = some (.iastore) := by decide +kernel
theorem i175_133 : xIns xg 175 133 = some (.aload_n 0) := by decide +kernel
theorem i175_134 : xIns xg 175 134 = some (.getfield 45) := by decide +kernel
theorem i175_137 : xIns xg 175 137 = some (.iload_n 3) := by decide +kernel
theorem i175_138 : xIns xg 175 138 = some (.iload 4) := by decide +kernel
theorem i175_140 : xIns xg 175 140 = some (.iconst 1) := by decide +kernel
theorem i175_141 : xIns xg 175 141 = some (.if_icmp .ne 7) := by decide +kernel
theorem i175_148 : xIns xg 175 148 = some (.iload 4) := by decide +kernel
theorem i175_150 : xIns xg 175 150 = some (.ifCond .ne 7) := by decide +kernel
theorem i175_157 : xIns xg 175 157 = some (.iload 4) := by decide +kernel
theorem i175_153 : xIns xg 175 153 = some (.iconst 1) := by decide +kernel
theorem i175_154 : xIns xg 175 154 = some (.goto 5) := by decide +kernel
theorem i175_144 : xIns xg 175 144 = some (.iconst 0) := by decide +kernel
theorem i175_145 : xIns xg 175 145 = some (.goto 14) := by decide +kernel
theorem i175_21 : xIns xg 175 21 = some (.aload_n 0) := by decide +kernel
theorem i175_22 : xIns xg 175 22 = some (.getfield 45) := by decide +kernel
theorem i175_25 : xIns xg 175 25 = some (.iload_n 3) := by decide +kernel
theorem i175_26 : xIns xg 175 26 = some (.iaload) := by decide +kernel
theorem i175_27 : xIns xg 175 27 = some (.ifCond .ne 136) := by decide +kernel
theorem i175_30 : xIns xg 175 30 = some (.aload_n 0) := by decide +kernel
theorem i175_31 : xIns xg 175 31 = some (.getfield 42) := by decide +kernel
theorem i175_34 : xIns xg 175 34 = some (.iload_n 3) := by decide +kernel
theorem i175_35 : xIns xg 175 35 = some (.iaload) := by decide +kernel
theorem i175_36 : xIns xg 175 36 = some (.iload_n 2) := by decide +kernel
theorem i175_37 : xIns xg 175 37 = some (.if_icmp .gt 126) := by decide +kernel
theorem i175_40 : xIns xg 175 40 = some (.aload_n 0) := by decide +kernel
theorem i175_41 : xIns xg 175 41 = some (.getfield 48) := by decide +kernel
theorem i175_44 : xIns xg 175 44 = some (.iload_n 3) := by decide +kernel
theorem i175_45 : xIns xg 175 45 = some (.baload) := by decide +kernel
theorem i175_46 : xIns xg 175 46 = some (.ifCond .eq 6) := by decide +kernel
theorem i175_52 : xIns xg 175 52 = some (.aload_n 0) := by decide +kernel
theorem i175_53 : xIns xg 175 53 = some (.getfield 326) := by decide +kernel
theorem i175_56 : xIns xg 175 56 = some (.aload_n 0) := by decide +kernel
theorem i175_57 : xIns xg 175 57 = some (.getfield 329) := by decide +kernel
theorem i175_60 : xIns xg 175 60 = some (.if_icmp .ne 6) := by decide +kernel
theorem i175_66 : xIns xg 175 66 = some (.aload_n 0) := by decide +kernel
theorem i175_67 : xIns xg 175 67 = some (.dup) := by decide +kernel
theorem i175_68 : xIns xg 175 68 = some (.getfield 326) := by decide +kernel
theorem i175_71 : xIns xg 175 71 = some (.iconst 1) := by decide +kernel
theorem i175_72 : xIns xg 175 72 = some (.iadd) := by decide +kernel
theorem i175_73 : xIns xg 175 73 = some (.putfield 326) := by decide +kernel
theorem p175_326 : xPut xg 175 326 = some (7, 36, .int) := by decide +kernel
theorem i175_76 : xIns xg 175 76 = some (.aload_n 0) := by decide +kernel
theorem i175_77 : xIns xg 175 77 = some (.getfield 48) := by decide +kernel
theorem i175_80 : xIns xg 175 80 = some (.iload_n 3) := by decide +kernel
theorem i175_81 : xIns xg 175 81 = some (.iconst 1) := by decide +kernel
theorem i175_82 : xIns xg 175 82 = some (.bastore) := by decide +kernel
theorem i175_83 : xIns xg 175 83 = some (.aload_n 0) := by decide +kernel
theorem i175_84 : xIns xg 175 84 = some (.iload_n 3) := by decide +kernel
theorem i175_85 : xIns xg 175 85 = some (.aload_n 0) := by decide +kernel
theorem i175_86 : xIns xg 175 86 = some (.getfield 42) := by decide +kernel
theorem i175_89 : xIns xg 175 89 = some (.iload_n 3) := by decide +kernel
theorem i175_90 : xIns xg 175 90 = some (.iaload) := by decide +kernel
theorem i175_91 : xIns xg 175 91 = some (.invokevirtual 332) := by decide +kernel
theorem i175_94 : xIns xg 175 94 = some (.istore 4) := by decide +kernel
theorem i175_96 : xIns xg 175 96 = some (.aload_n 0) := by decide +kernel
theorem i175_97 : xIns xg 175 97 = some (.getfield 48) := by decide +kernel
theorem i175_100 : xIns xg 175 100 = some (.iload_n 3) := by decide +kernel
theorem i175_101 : xIns xg 175 101 = some (.iconst 0) := by decide +kernel
theorem i175_102 : xIns xg 175 102 = some (.bastore) := by decide +kernel
theorem i175_103 : xIns xg 175 103 = some (.iload 4) := by decide +kernel
theorem i175_105 : xIns xg 175 105 = some (.bipush (-6)) := by decide +kernel
theorem i175_107 : xIns xg 175 107 = some (.if_icmp .ne 6) := by decide +kernel
theorem i175_113 : xIns xg 175 113 = some (.aload_n 0) := by decide +kernel
theorem i175_114 : xIns xg 175 114 = some (.getfield 42) := by decide +kernel
theorem i175_117 : xIns xg 175 117 = some (.iload_n 3) := by decide +kernel
theorem i175_118 : xIns xg 175 118 = some (.dup2) := by decide +kernel
theorem i175_119 : xIns xg 175 119 = some (.iaload) := by decide +kernel
theorem i175_120 : xIns xg 175 120 = some (.iload 4) := by decide +kernel
theorem i175_122 : xIns xg 175 122 = some (.iconst 1) := by decide +kernel
theorem i175_123 : xIns xg 175 123 = some (.if_icmp .ne 7) := by decide +kernel
theorem i175_130 : xIns xg 175 130 = some (.iconst 0) := by decide +kernel
theorem i175_126 : xIns xg 175 126 = some (.iconst 1) := by decide +kernel
theorem i175_127 : xIns xg 175 127 = some (.goto 4) := by decide +kernel
theorem i175_110 : xIns xg 175 110 = some (.bipush (-6)) := by decide +kernel
theorem i175_112 : xIns xg 175 112 = some (.ireturn) := by decide +kernel
theorem i175_63 : xIns xg 175 63 = some (.bipush (-6)) := by decide +kernel
theorem i175_65 : xIns xg 175 65 = some (.ireturn) := by decide +kernel
theorem i175_49 : xIns xg 175 49 = some (.bipush (-21)) := by decide +kernel
theorem i175_51 : xIns xg 175 51 = some (.ireturn) := by decide +kernel
theorem i175_0 : xIns xg 175 0 = some (.aload_n 0) := by decide +kernel
theorem i175_1 : xIns xg 175 1 = some (.iload_n 1) := by decide +kernel
theorem i175_2 : xIns xg 175 2 = some (.invokevirtual 323) := by decide +kernel
theorem i175_5 : xIns xg 175 5 = some (.istore_n 3) := by decide +kernel
theorem i175_6 : xIns xg 175 6 = some (.iload_n 3) := by decide +kernel
theorem i175_7 : xIns xg 175 7 = some (.ifCond .ge 5) := by decide +kernel
theorem i175_12 : xIns xg 175 12 = some (.iload_n 2) := by decide +kernel
theorem i175_13 : xIns xg 175 13 = some (.bipush 64) := by decide +kernel
theorem i175_15 : xIns xg 175 15 = some (.if_icmp .lt 6) := by decide +kernel
theorem i175_18 : xIns xg 175 18 = some (.bipush (-24)) := by decide +kernel
theorem i175_20 : xIns xg 175 20 = some (.ireturn) := by decide +kernel
theorem i175_10 : xIns xg 175 10 = some (.iload_n 3) := by decide +kernel
theorem i175_11 : xIns xg 175 11 = some (.ireturn) := by decide +kernel
def d_x8_place_163 (N : Nat) (r_place : St → Int → Int → Option Rs) (r_headAsked : St → Int → Int → Option Rs)  (s : St) (x2 : Int) (x3 : Int) : Option Rs :=
  if 0 ≤ (w32 x3) ∧ (w32 x3) < ((192 : Nat) : Int) then (if (w32 x2) < (w32 (s 86 (Int.toNat (w32 x3)))) then some (s, 1) else if 0 ≤ (w32 x3) ∧ (w32 x3) < ((192 : Nat) : Int) then (if (w32 (s 87 (Int.toNat (w32 x3)))) = 1 then some (s, 0) else if 0 ≤ (w32 x3) ∧ (w32 x3) < ((192 : Nat) : Int) then some (s, (s 87 (Int.toNat (w32 x3)))) else none) else none) else none
set_option maxHeartbeats 4000000 in
set_option maxRecDepth 100000 in
theorem c_x8_place_163 {sc : xS} {d : Nat} {R : Rs} (N : Nat) (r_place : St → Int → Int → Option Rs) (r_headAsked : St → Int → Int → Option Rs) (e : Nat) (hr_place : ∀ d, e ≤ d → ∀ (s : St) (a0 a1 : Int) (R : Rs), r_place s a0 a1 = some R → vT sc d 175 0 [(0, .ref 77), (1, vi a0), (2, vi a1)] [] s (fun r => r = qI R)) (hr_headAsked : ∀ d, e ≤ d → ∀ (s : St) (a0 a1 : Int) (R : Rs), r_headAsked s a0 a1 = some R → vT sc d 140 0 [(0, .ref 77), (1, vi a0), (2, vi a1)] [] s (fun r => r = qI R)) (hd : e + 4 ≤ d)   (s : St) (x2 : Int) (x3 : Int) : d_x8_place_163 N r_place r_headAsked  s x2 x3 = some R → vT sc d 175 163 [(0, .ref 77), (2, vi x2), (3, vi x3)] [] s (fun r => r = qI R) := by
  obtain ⟨d, rfl⟩ : ∃ d', d = d' + 1 := ⟨d - 1, by omega⟩
  unfold d_x8_place_163
  refine vLin 164 i175_163 rfl rfl ?_
  refine vLan 165 i175_164 rfl rfl ?_
  refine vGetC 168 i175_165 f175_42 sh_77 rfl rfl ?_
  refine vLin 169 i175_168 rfl rfl ?_
  refine vIal 170 rfl i175_169 sh_86 rfl ?_
  refine vCge 177 173 rfl rfl i175_170 rfl rfl ?_ ?_
  · refine vLan 178 i175_177 rfl rfl ?_
    refine vGetC 181 i175_178 f175_45 sh_77 rfl rfl ?_
    refine vLin 182 i175_181 rfl rfl ?_
    refine vIal 183 rfl i175_182 sh_87 rfl ?_
    refine vK 184 i175_183 rfl ?_
    refine vCne 191 187 rfl (show w32 1 = 1 from rfl) i175_184 rfl rfl ?_ ?_
    · refine vLan 192 i175_191 rfl rfl ?_
      refine vGetC 195 i175_192 f175_45 sh_77 rfl rfl ?_
      refine vLin 196 i175_195 rfl rfl ?_
      refine vIal 197 rfl i175_196 sh_87 rfl ?_
      exact vRi i175_197 m175 rfl
    · refine vK 188 i175_187 rfl ?_
      refine vGo 197 i175_188 rfl ?_
      exact vRi i175_197 m175 rfl
  · refine vK 174 i175_173 rfl ?_
    refine vGo 197 i175_174 rfl ?_
    exact vRi i175_197 m175 rfl
def d_x8_place_159 (N : Nat) (r_place : St → Int → Int → Option Rs) (r_headAsked : St → Int → Int → Option Rs) (k21 : St → Int → Int → Option Rs) (s : St) (x2 : Int) (x3 : Int) (z0 : Int) (z1 : Int) : Option Rs :=
  if 0 ≤ (w32 z1) ∧ (w32 z1) < ((192 : Nat) : Int) then bd (up s 87 (Int.toNat (w32 z1)) z0) fun s1 => k21 s1 x2 x3 else none
set_option maxHeartbeats 4000000 in
set_option maxRecDepth 100000 in
theorem c_x8_place_159 {sc : xS} {d : Nat} {R : Rs} (N : Nat) (r_place : St → Int → Int → Option Rs) (r_headAsked : St → Int → Int → Option Rs) (e : Nat) (hr_place : ∀ d, e ≤ d → ∀ (s : St) (a0 a1 : Int) (R : Rs), r_place s a0 a1 = some R → vT sc d 175 0 [(0, .ref 77), (1, vi a0), (2, vi a1)] [] s (fun r => r = qI R)) (hr_headAsked : ∀ d, e ≤ d → ∀ (s : St) (a0 a1 : Int) (R : Rs), r_headAsked s a0 a1 = some R → vT sc d 140 0 [(0, .ref 77), (1, vi a0), (2, vi a1)] [] s (fun r => r = qI R)) (hd : e + 4 ≤ d) (k21 : St → Int → Int → Option Rs) (hk21 : ∀ (s : St) (x2 : Int) (x3 : Int), k21 s x2 x3 = some R → vT sc d 175 21 [(0, .ref 77), (2, vi x2), (3, vi x3)] [] s (fun r => r = qI R))  (s : St) (x2 : Int) (x3 : Int) (z0 : Int) (z1 : Int) : d_x8_place_159 N r_place r_headAsked k21 s x2 x3 z0 z1 = some R → vT sc d 175 159 [(0, .ref 77), (2, vi x2), (3, vi x3)] [vi z0, vi z1, .ref 87] s (fun r => r = qI R) := by
  obtain ⟨d, rfl⟩ : ∃ d', d = d' + 1 := ⟨d - 1, by omega⟩
  unfold d_x8_place_159
  refine vIas 160 rfl i175_159 sh_87 rfl (fun s1 => ?_)
  refine vGo 21 i175_160 rfl ?_
  exact fun hD => hk21 s1 x2 x3 hD
def d_x8_place_131 (N : Nat) (r_place : St → Int → Int → Option Rs) (r_headAsked : St → Int → Int → Option Rs) (k21 : St → Int → Int → Option Rs) (s : St) (x2 : Int) (x3 : Int) (x4 : Int) (z0 : Int) (z1 : Int) (z2 : Int) : Option Rs :=
  if 0 ≤ (w32 z2) ∧ (w32 z2) < ((192 : Nat) : Int) then bd (up s 86 (Int.toNat (w32 z2)) (z1 + z0)) fun s2 => (if (w32 x4) = 1 then d_x8_place_159 N r_place r_headAsked k21 s2 x2 x3 0 x3 else (if (w32 x4) = 0 then d_x8_place_159 N r_place r_headAsked k21 s2 x2 x3 1 x3 else d_x8_place_159 N r_place r_headAsked k21 s2 x2 x3 x4 x3)) else none
set_option maxHeartbeats 4000000 in
set_option maxRecDepth 100000 in
theorem c_x8_place_131 {sc : xS} {d : Nat} {R : Rs} (N : Nat) (r_place : St → Int → Int → Option Rs) (r_headAsked : St → Int → Int → Option Rs) (e : Nat) (hr_place : ∀ d, e ≤ d → ∀ (s : St) (a0 a1 : Int) (R : Rs), r_place s a0 a1 = some R → vT sc d 175 0 [(0, .ref 77), (1, vi a0), (2, vi a1)] [] s (fun r => r = qI R)) (hr_headAsked : ∀ d, e ≤ d → ∀ (s : St) (a0 a1 : Int) (R : Rs), r_headAsked s a0 a1 = some R → vT sc d 140 0 [(0, .ref 77), (1, vi a0), (2, vi a1)] [] s (fun r => r = qI R)) (hd : e + 4 ≤ d) (k21 : St → Int → Int → Option Rs) (hk21 : ∀ (s : St) (x2 : Int) (x3 : Int), k21 s x2 x3 = some R → vT sc d 175 21 [(0, .ref 77), (2, vi x2), (3, vi x3)] [] s (fun r => r = qI R))  (s : St) (x2 : Int) (x3 : Int) (x4 : Int) (z0 : Int) (z1 : Int) (z2 : Int) : d_x8_place_131 N r_place r_headAsked k21 s x2 x3 x4 z0 z1 z2 = some R → vT sc d 175 131 [(0, .ref 77), (2, vi x2), (3, vi x3), (4, vi x4)] [vi z0, vi z1, vi z2, .ref 86] s (fun r => r = qI R) := by
  obtain ⟨d, rfl⟩ : ∃ d', d = d' + 1 := ⟨d - 1, by omega⟩
  unfold d_x8_place_131
  refine vIadd 132 i175_131 rfl ?_
  refine vIas 133 rfl i175_132 sh_86 rfl (fun s2 => ?_)
  refine vLan 134 i175_133 rfl rfl ?_
  refine vGetC 137 i175_134 f175_45 sh_77 rfl rfl ?_
  refine vLin 138 i175_137 rfl rfl ?_
  refine vLi 140 i175_138 rfl rfl ?_
  refine vK 141 i175_140 rfl ?_
  refine vCne 148 144 rfl (show w32 1 = 1 from rfl) i175_141 rfl rfl ?_ ?_
  · refine vLi 150 i175_148 rfl rfl ?_
    refine vZne 157 153 rfl i175_150 rfl rfl ?_ ?_
    · refine vLi 159 i175_157 rfl rfl ?_
      exact fun hD => tLc [(0, .ref 77), (2, vi x2), (3, vi x3)] (xNdk [0, 2, 3] rfl (by decide)) (xNdk [0, 2, 3, 4] rfl (by decide)) ⟨rfl, rfl, rfl, trivial⟩ (c_x8_place_159 N r_place r_headAsked e hr_place hr_headAsked hd k21 hk21 s2 x2 x3 x4 x3 hD)
    · refine vK 154 i175_153 rfl ?_
      refine vGo 159 i175_154 rfl ?_
      exact fun hD => tLc [(0, .ref 77), (2, vi x2), (3, vi x3)] (xNdk [0, 2, 3] rfl (by decide)) (xNdk [0, 2, 3, 4] rfl (by decide)) ⟨rfl, rfl, rfl, trivial⟩ (c_x8_place_159 N r_place r_headAsked e hr_place hr_headAsked hd k21 hk21 s2 x2 x3 1 x3 hD)
  · refine vK 145 i175_144 rfl ?_
    refine vGo 159 i175_145 rfl ?_
    exact fun hD => tLc [(0, .ref 77), (2, vi x2), (3, vi x3)] (xNdk [0, 2, 3] rfl (by decide)) (xNdk [0, 2, 3, 4] rfl (by decide)) ⟨rfl, rfl, rfl, trivial⟩ (c_x8_place_159 N r_place r_headAsked e hr_place hr_headAsked hd k21 hk21 s2 x2 x3 0 x3 hD)
def d_x8_place_21 (N : Nat) (r_place : St → Int → Int → Option Rs) (r_headAsked : St → Int → Int → Option Rs)  (k21 : St → Int → Int → Option Rs) (s : St) (x2 : Int) (x3 : Int) : Option Rs :=
  if 0 ≤ (w32 x3) ∧ (w32 x3) < ((192 : Nat) : Int) then (if (w32 (s 87 (Int.toNat (w32 x3)))) = 0 then if 0 ≤ (w32 x3) ∧ (w32 x3) < ((192 : Nat) : Int) then (if (w32 x2) < (w32 (s 86 (Int.toNat (w32 x3)))) then d_x8_place_163 N r_place r_headAsked  s x2 x3 else if 0 ≤ (w32 x3) ∧ (w32 x3) < ((192 : Nat) : Int) then (if (w32 (s 88 (Int.toNat (w32 x3)))) = 0 then (if (w32 (s 77 36)) = (w32 (s 77 37)) then some (s, (-6)) else bd (up s 77 36 ((s 77 36) + 1)) fun s3 => if 0 ≤ (w32 x3) ∧ (w32 x3) < ((192 : Nat) : Int) then bd (up s3 88 (Int.toNat (w32 x3)) (and32 1 1)) fun s4 => if 0 ≤ (w32 x3) ∧ (w32 x3) < ((192 : Nat) : Int) then bI (d_x8_tellsPlace N r_place r_headAsked s4 x3 (s4 86 (Int.toNat (w32 x3)))) fun s5 v6 => if 0 ≤ (w32 x3) ∧ (w32 x3) < ((192 : Nat) : Int) then bd (up s5 88 (Int.toNat (w32 x3)) (and32 0 1)) fun s7 => (if (w32 v6) = (-6) then some (s7, (-6)) else if 0 ≤ (w32 x3) ∧ (w32 x3) < ((192 : Nat) : Int) then (if (w32 v6) = 1 then d_x8_place_131 N r_place r_headAsked k21 s7 x2 x3 v6 1 (s7 86 (Int.toNat (w32 x3))) x3 else d_x8_place_131 N r_place r_headAsked k21 s7 x2 x3 v6 0 (s7 86 (Int.toNat (w32 x3))) x3) else none) else none else none else none) else some (s, (-21))) else none) else none else d_x8_place_163 N r_place r_headAsked  s x2 x3) else none
def d_x8_place_21L (N : Nat) (r_place : St → Int → Int → Option Rs) (r_headAsked : St → Int → Int → Option Rs)  : Nat → St → Int → Int → Option Rs
  | 0 => fun _ _ _ => none
  | n + 1 => d_x8_place_21 N r_place r_headAsked  (d_x8_place_21L N r_place r_headAsked  n)
set_option maxHeartbeats 4000000 in
set_option maxRecDepth 100000 in
theorem c_x8_place_21 {sc : xS} {d : Nat} {R : Rs} (N : Nat) (r_place : St → Int → Int → Option Rs) (r_headAsked : St → Int → Int → Option Rs) (e : Nat) (hr_place : ∀ d, e ≤ d → ∀ (s : St) (a0 a1 : Int) (R : Rs), r_place s a0 a1 = some R → vT sc d 175 0 [(0, .ref 77), (1, vi a0), (2, vi a1)] [] s (fun r => r = qI R)) (hr_headAsked : ∀ d, e ≤ d → ∀ (s : St) (a0 a1 : Int) (R : Rs), r_headAsked s a0 a1 = some R → vT sc d 140 0 [(0, .ref 77), (1, vi a0), (2, vi a1)] [] s (fun r => r = qI R)) (hd : e + 4 ≤ d)   (k21 : St → Int → Int → Option Rs) (hk21 : ∀ (s : St) (x2 : Int) (x3 : Int), k21 s x2 x3 = some R → vT sc d 175 21 [(0, .ref 77), (2, vi x2), (3, vi x3)] [] s (fun r => r = qI R)) (s : St) (x2 : Int) (x3 : Int) : d_x8_place_21 N r_place r_headAsked  k21 s x2 x3 = some R → vT sc d 175 21 [(0, .ref 77), (2, vi x2), (3, vi x3)] [] s (fun r => r = qI R) := by
  obtain ⟨d, rfl⟩ : ∃ d', d = d' + 1 := ⟨d - 1, by omega⟩
  unfold d_x8_place_21
  refine vLan 22 i175_21 rfl rfl ?_
  refine vGetC 25 i175_22 f175_45 sh_77 rfl rfl ?_
  refine vLin 26 i175_25 rfl rfl ?_
  refine vIal 27 rfl i175_26 sh_87 rfl ?_
  refine vZne 163 30 rfl i175_27 rfl rfl ?_ ?_
  · exact fun hD => c_x8_place_163 N r_place r_headAsked e hr_place hr_headAsked hd  s x2 x3 hD
  · refine vLan 31 i175_30 rfl rfl ?_
    refine vGetC 34 i175_31 f175_42 sh_77 rfl rfl ?_
    refine vLin 35 i175_34 rfl rfl ?_
    refine vIal 36 rfl i175_35 sh_86 rfl ?_
    refine vLin 37 i175_36 rfl rfl ?_
    refine vCgt 163 40 rfl rfl i175_37 rfl rfl ?_ ?_
    · exact fun hD => c_x8_place_163 N r_place r_headAsked e hr_place hr_headAsked hd  s x2 x3 hD
    · refine vLan 41 i175_40 rfl rfl ?_
      refine vGetC 44 i175_41 f175_48 sh_77 rfl rfl ?_
      refine vLin 45 i175_44 rfl rfl ?_
      refine vZal 46 rfl i175_45 sh_88 rfl ?_
      refine vZeq 52 49 rfl i175_46 rfl rfl ?_ ?_
      · refine vLan 53 i175_52 rfl rfl ?_
        refine vGet 56 i175_53 f175_326 sh_77 rfl rfl ?_
        refine vLan 57 i175_56 rfl rfl ?_
        refine vGet 60 i175_57 f175_329 sh_77 rfl rfl ?_
        refine vCne 66 63 rfl rfl i175_60 rfl rfl ?_ ?_
        · refine vLan 67 i175_66 rfl rfl ?_
          refine vD 68 i175_67 rfl rfl rfl ?_
          refine vGet 71 i175_68 f175_326 sh_77 rfl rfl ?_
          refine vK 72 i175_71 rfl ?_
          refine vIadd 73 i175_72 rfl ?_
          refine vPut 76 i175_73 p175_326 sh_77 rfl rfl (fun s3 => ?_)
          refine vLan 77 i175_76 rfl rfl ?_
          refine vGetC 80 i175_77 f175_48 sh_77 rfl rfl ?_
          refine vLin 81 i175_80 rfl rfl ?_
          refine vK 82 i175_81 rfl ?_
          refine vZas 83 rfl i175_82 sh_88 rfl (fun s4 => ?_)
          refine vLan 84 i175_83 rfl rfl ?_
          refine vLin 85 i175_84 rfl rfl ?_
          refine vLan 86 i175_85 rfl rfl ?_
          refine vGetC 89 i175_86 f175_42 sh_77 rfl rfl ?_
          refine vLin 90 i175_89 rfl rfl ?_
          refine vIal 91 rfl i175_90 sh_86 rfl ?_
          refine vCallI 94 [.ref 77, vi x3, vi (s4 86 (Int.toNat (w32 x3)))] [] [(0, .ref 77), (1, vi x3), (2, vi (s4 86 (Int.toNat (w32 x3))))] i175_91 rfl (xlk0 l175_332) (Or.inl rfl) m189 rfl rfl (Nat.le_of_ble_eq_true rfl) (Nat.le_of_ble_eq_true rfl) (Nat.le_of_ble_eq_true rfl) (xh0 sh_77 (by decide)) rfl rfl (fun R1 => c_x8_tellsPlace N r_place r_headAsked e hr_place hr_headAsked (by omega) s4 x3 (s4 86 (Int.toNat (w32 x3)))) (fun s5 v6 => ?_)
          refine vSi0 96 [(4, vi v6), (0, .ref 77), (2, vi x2), (3, vi x3)] i175_94 m175 (by decide) rfl rfl ?_
          refine vLan 97 i175_96 rfl rfl ?_
          refine vGetC 100 i175_97 f175_48 sh_77 rfl rfl ?_
          refine vLin 101 i175_100 rfl rfl ?_
          refine vK 102 i175_101 rfl ?_
          refine vZas 103 rfl i175_102 sh_88 rfl (fun s7 => ?_)
          refine vLi 105 i175_103 rfl rfl ?_
          refine vKb 107 i175_105 (by decide) rfl ?_
          refine vCne 113 110 rfl (show w32 (-6) = (-6) from rfl) i175_107 rfl rfl ?_ ?_
          · refine vLan 114 i175_113 rfl rfl ?_
            refine vGetC 117 i175_114 f175_42 sh_77 rfl rfl ?_
            refine vLin 118 i175_117 rfl rfl ?_
            refine vD 119 i175_118 rfl rfl rfl ?_
            refine vIal 120 rfl i175_119 sh_86 rfl ?_
            refine vLi 122 i175_120 rfl rfl ?_
            refine vK 123 i175_122 rfl ?_
            refine vCne 130 126 rfl (show w32 1 = 1 from rfl) i175_123 rfl rfl ?_ ?_
            · refine vK 131 i175_130 rfl ?_
              exact fun hD => tLc [(0, .ref 77), (2, vi x2), (3, vi x3), (4, vi v6)] (xNdk [0, 2, 3, 4] rfl (by decide)) (xNdk [4, 0, 2, 3] rfl (by decide)) ⟨rfl, rfl, rfl, rfl, trivial⟩ (c_x8_place_131 N r_place r_headAsked e hr_place hr_headAsked hd k21 hk21 s7 x2 x3 v6 0 (s7 86 (Int.toNat (w32 x3))) x3 hD)
            · refine vK 127 i175_126 rfl ?_
              refine vGo 131 i175_127 rfl ?_
              exact fun hD => tLc [(0, .ref 77), (2, vi x2), (3, vi x3), (4, vi v6)] (xNdk [0, 2, 3, 4] rfl (by decide)) (xNdk [4, 0, 2, 3] rfl (by decide)) ⟨rfl, rfl, rfl, rfl, trivial⟩ (c_x8_place_131 N r_place r_headAsked e hr_place hr_headAsked hd k21 hk21 s7 x2 x3 v6 1 (s7 86 (Int.toNat (w32 x3))) x3 hD)
          · refine vKb 112 i175_110 (by decide) rfl ?_
            exact vRi i175_112 m175 rfl
        · refine vKb 65 i175_63 (by decide) rfl ?_
          exact vRi i175_65 m175 rfl
      · refine vKb 51 i175_49 (by decide) rfl ?_
        exact vRi i175_51 m175 rfl
theorem c_x8_place_21L {sc : xS} {d : Nat} {R : Rs} (N : Nat) (r_place : St → Int → Int → Option Rs) (r_headAsked : St → Int → Int → Option Rs) (e : Nat) (hr_place : ∀ d, e ≤ d → ∀ (s : St) (a0 a1 : Int) (R : Rs), r_place s a0 a1 = some R → vT sc d 175 0 [(0, .ref 77), (1, vi a0), (2, vi a1)] [] s (fun r => r = qI R)) (hr_headAsked : ∀ d, e ≤ d → ∀ (s : St) (a0 a1 : Int) (R : Rs), r_headAsked s a0 a1 = some R → vT sc d 140 0 [(0, .ref 77), (1, vi a0), (2, vi a1)] [] s (fun r => r = qI R)) (hd : e + 4 ≤ d)   : ∀ (n : Nat) (s : St) (x2 : Int) (x3 : Int), d_x8_place_21L N r_place r_headAsked  n s x2 x3 = some R → vT sc d 175 21 [(0, .ref 77), (2, vi x2), (3, vi x3)] [] s (fun r => r = qI R) := by
  intro n
  induction n with
  | zero => intro s x2 x3 hD; cases hD
  | succ n ih => intro s x2 x3 hD; exact c_x8_place_21 N r_place r_headAsked e hr_place hr_headAsked hd  _ ih s x2 x3 hD
def d_x8_place (N : Nat) (r_place : St → Int → Int → Option Rs) (r_headAsked : St → Int → Int → Option Rs)  (s : St) (a0 : Int) (a1 : Int) : Option Rs :=
  bI (d_x8_followed N  s a0) fun s8 v9 => (if (w32 v9) < 0 then some (s8, v9) else (if (w32 a1) < 64 then d_x8_place_21L N r_place r_headAsked  N s8 a1 v9 else some (s8, (-24))))
set_option maxHeartbeats 4000000 in
set_option maxRecDepth 100000 in
theorem c_x8_place {sc : xS} {d : Nat} {R : Rs} (N : Nat) (r_place : St → Int → Int → Option Rs) (r_headAsked : St → Int → Int → Option Rs) (e : Nat) (hr_place : ∀ d, e ≤ d → ∀ (s : St) (a0 a1 : Int) (R : Rs), r_place s a0 a1 = some R → vT sc d 175 0 [(0, .ref 77), (1, vi a0), (2, vi a1)] [] s (fun r => r = qI R)) (hr_headAsked : ∀ d, e ≤ d → ∀ (s : St) (a0 a1 : Int) (R : Rs), r_headAsked s a0 a1 = some R → vT sc d 140 0 [(0, .ref 77), (1, vi a0), (2, vi a1)] [] s (fun r => r = qI R)) (hd : e + 4 ≤ d)   (s : St) (a0 : Int) (a1 : Int) : d_x8_place N r_place r_headAsked  s a0 a1 = some R → vT sc d 175 0 [(0, .ref 77), (1, vi a0), (2, vi a1)] [] s (fun r => r = qI R) := by
  obtain ⟨d, rfl⟩ : ∃ d', d = d' + 1 := ⟨d - 1, by omega⟩
  unfold d_x8_place
  refine vLan 1 i175_0 rfl rfl ?_
  refine vLin 2 i175_1 rfl rfl ?_
  refine vCallI 5 [.ref 77, vi a0] [] [(0, .ref 77), (1, vi a0)] i175_2 rfl (xlk0 l175_323) (Or.inl rfl) m134 rfl rfl (Nat.le_of_ble_eq_true rfl) (Nat.le_of_ble_eq_true rfl) (Nat.le_of_ble_eq_true rfl) (xh0 sh_77 (by decide)) rfl rfl (fun R1 => c_x8_followed N   (by omega) s a0) (fun s8 v9 => ?_)
  refine vSin0 6 [(3, vi v9), (0, .ref 77), (1, vi a0), (2, vi a1)] i175_5 m175 (by decide) rfl rfl ?_
  refine vLin 7 i175_6 rfl rfl ?_
  refine vZge 12 10 rfl i175_7 rfl rfl ?_ ?_
  · refine vLin 13 i175_12 rfl rfl ?_
    refine vKb 15 i175_13 (by decide) rfl ?_
    refine vClt 21 18 rfl (show w32 64 = 64 from rfl) i175_15 rfl rfl ?_ ?_
    · exact fun hD => tLc [(0, .ref 77), (2, vi a1), (3, vi v9)] (xNdk [0, 2, 3] rfl (by decide)) (xNdk [3, 0, 1, 2] rfl (by decide)) ⟨rfl, rfl, rfl, trivial⟩ (c_x8_place_21L N r_place r_headAsked e hr_place hr_headAsked hd  N s8 a1 v9 hD)
    · refine vKb 20 i175_18 (by decide) rfl ?_
      exact vRi i175_20 m175 rfl
  · refine vLin 11 i175_10 rfl rfl ?_
    exact vRi i175_11 m175 rfl
def gm (N : Nat)  : Nat → (St → Int → Int → Option Rs) × (St → Int → Int → Option Rs)
  | 0 => (fun _ _ _ => none, fun _ _ _ => none)
  | n + 1 => (d_x8_place N (gm N  n).1 (gm N  n).2 , d_x8_headAsked N (gm N  n).1 (gm N  n).2 )
theorem gm_ok {sc : xS} (N : Nat)   : ∀ n d, 5 * n ≤ d → (∀ (s : St) (a0 a1 : Int) (R : Rs), (gm N  n).1 s a0 a1 = some R → vT sc d 175 0 [(0, .ref 77), (1, vi a0), (2, vi a1)] [] s (fun r => r = qI R)) ∧ (∀ (s : St) (a0 a1 : Int) (R : Rs), (gm N  n).2 s a0 a1 = some R → vT sc d 140 0 [(0, .ref 77), (1, vi a0), (2, vi a1)] [] s (fun r => r = qI R)) := by
  intro n
  induction n with
  | zero => intro d hd; exact ⟨fun s _ _ R h => (by cases h), fun s _ _ R h => (by cases h)⟩
  | succ n ih =>
    intro d hd
    refine ⟨fun s p i R h => ?_, fun s p i R h => ?_⟩
    · exact c_x8_place N _ _  (5 * n) (fun d' h' => (ih d' h').1) (fun d' h' => (ih d' h').2)  (by omega) s p i h
    · exact c_x8_headAsked N _ _  (5 * n) (fun d' h' => (ih d' h').1) (fun d' h' => (ih d' h').2)  (by omega) s p i h
theorem f191_13 : xFld xg 191 13 = some (7, 1) := by decide +kernel
theorem f191_39 : xFld xg 191 39 = some (7, 9) := by decide +kernel
theorem f191_326 : xFld xg 191 326 = some (7, 36) := by decide +kernel
theorem i191_0 : xIns xg 191 0 = some (.iload_n 1) := by decide +kernel
theorem i191_1 : xIns xg 191 1 = some (.invokestatic 266) := by decide +kernel
theorem i191_4 : xIns xg 191 4 = some (.ifCond .eq 15) := by decide +kernel
theorem i191_19 : xIns xg 191 19 = some (.bipush (-2)) := by decide +kernel
theorem i191_21 : xIns xg 191 21 = some (.ireturn) := by decide +kernel
theorem m191 : (xMet xg 191).2.2 = (4, (some .int)) := by decide +kernel
theorem i191_7 : xIns xg 191 7 = some (.iload_n 2) := by decide +kernel
theorem i191_8 : xIns xg 191 8 = some (.i2l) := by decide +kernel
theorem i191_9 : xIns xg 191 9 = some (.lconst 0) := by decide +kernel
theorem i191_10 : xIns xg 191 10 = some (.ldc2_w 373) := by decide +kernel
theorem c191_373 : xCon xg 191 373 = some (vl (63)) := by decide +kernel
theorem i191_13 : xIns xg 191 13 = some (.invokestatic 177) := by decide +kernel
theorem i191_16 : xIns xg 191 16 = some (.ifCond .ne 6) := by decide +kernel
theorem i191_22 : xIns xg 191 22 = some (.aload_n 0) := by decide +kernel
theorem i191_23 : xIns xg 191 23 = some (.getfield 13) := by decide +kernel
theorem i191_26 : xIns xg 191 26 = some (.iload_n 1) := by decide +kernel
theorem i191_27 : xIns xg 191 27 = some (.iaload) := by decide +kernel
theorem i191_28 : xIns xg 191 28 = some (.ifCond .ne 6) := by decide +kernel
theorem i191_34 : xIns xg 191 34 = some (.aload_n 0) := by decide +kernel
theorem i191_35 : xIns xg 191 35 = some (.aload_n 0) := by decide +kernel
theorem i191_36 : xIns xg 191 36 = some (.getfield 39) := by decide +kernel
theorem i191_39 : xIns xg 191 39 = some (.invokevirtual 375) := by decide +kernel
theorem i191_42 : xIns xg 191 42 = some (.aload_n 0) := by decide +kernel
theorem i191_43 : xIns xg 191 43 = some (.bipush 24) := by decide +kernel
theorem i191_45 : xIns xg 191 45 = some (.iload_n 1) := by decide +kernel
theorem i191_46 : xIns xg 191 46 = some (.imul) := by decide +kernel
theorem i191_47 : xIns xg 191 47 = some (.iload_n 2) := by decide +kernel
theorem i191_48 : xIns xg 191 48 = some (.invokevirtual 342) := by decide +kernel
theorem i191_51 : xIns xg 191 51 = some (.istore_n 3) := by decide +kernel
theorem i191_52 : xIns xg 191 52 = some (.aload_n 0) := by decide +kernel
theorem i191_53 : xIns xg 191 53 = some (.aload_n 0) := by decide +kernel
theorem i191_54 : xIns xg 191 54 = some (.getfield 326) := by decide +kernel
theorem i191_57 : xIns xg 191 57 = some (.putfield 378) := by decide +kernel
theorem p191_378 : xPut xg 191 378 = some (7, 39, .int) := by decide +kernel
theorem i191_60 : xIns xg 191 60 = some (.iload_n 3) := by decide +kernel
theorem i191_61 : xIns xg 191 61 = some (.ireturn) := by decide +kernel
theorem i191_31 : xIns xg 191 31 = some (.bipush (-3)) := by decide +kernel
theorem i191_33 : xIns xg 191 33 = some (.ireturn) := by decide +kernel
def d_x8_there (N : Nat)  (s : St) (a0 : Int) (a1 : Int) : Option Rs :=
  bI (d_x8_isStream N  s a0) fun s1 v2 => (if (w32 v2) = 0 then some (s1, (-2)) else bI (d_x8_in N  s1 (w32 a1) 0 63) fun s3 v4 => (if (w32 v4) = 0 then some (s3, (-2)) else if 0 ≤ (w32 a0) ∧ (w32 a0) < ((8 : Nat) : Int) then (if (w32 (s3 78 (Int.toNat (w32 a0)))) = 0 then some (s3, (-3)) else bV (d_x8_begins N  s3 (s3 77 9)) fun s5 => bI ((gm N  110).1 s5 (24 * a0) a1) fun s7 v8 => bd (up s7 77 39 (s7 77 36)) fun s9 => some (s9, v8)) else none))
set_option maxHeartbeats 4000000 in
set_option maxRecDepth 100000 in
theorem c_x8_there {sc : xS} {d : Nat} {R : Rs} (N : Nat)  (hd : 551 ≤ d)   (s : St) (a0 : Int) (a1 : Int) : d_x8_there N  s a0 a1 = some R → vT sc d 191 0 [(0, .ref 77), (1, vi a0), (2, vi a1)] [] s (fun r => r = qI R) := by
  obtain ⟨d, rfl⟩ : ∃ d', d = d' + 1 := ⟨d - 1, by omega⟩
  unfold d_x8_there
  refine vLin 1 i191_0 rfl rfl ?_
  refine vCallI 4 [vi a0] [] [(0, vi a0)] i191_1 rfl (xlk1 l191_266) (Or.inr (Or.inl rfl)) m153 rfl rfl (Nat.le_of_ble_eq_true rfl) (Nat.le_of_ble_eq_true rfl) (Nat.le_of_ble_eq_true rfl) rfl rfl rfl (fun R1 => c_x8_isStream N   (by omega) s a0) (fun s1 v2 => ?_)
  refine vZeq 19 7 rfl i191_4 rfl rfl ?_ ?_
  · refine vKb 21 i191_19 (by decide) rfl ?_
    exact vRi i191_21 m191 rfl
  · refine vLin 8 i191_7 rfl rfl ?_
    refine vI2l 9 i191_8 rfl ?_
    refine vKl 10 0 i191_9 (by decide) rfl ?_
    refine vKd 13 i191_10 c191_373 rfl ?_
    refine vCallI 16 [vl (w32 a1), vl 0, vl 63] [] [(0, vl (w32 a1)), (2, vl 0), (4, vl 63)] i191_13 rfl (xlk1 l191_177) (Or.inr (Or.inl rfl)) m142 rfl rfl (Nat.le_of_ble_eq_true rfl) (Nat.le_of_ble_eq_true rfl) (Nat.le_of_ble_eq_true rfl) rfl rfl rfl (fun R1 => c_x8_in N   (by omega) s1 (w32 a1) 0 63) (fun s3 v4 => ?_)
    refine vZne 22 19 rfl i191_16 rfl rfl ?_ ?_
    · refine vLan 23 i191_22 rfl rfl ?_
      refine vGetC 26 i191_23 f191_13 sh_77 rfl rfl ?_
      refine vLin 27 i191_26 rfl rfl ?_
      refine vIal 28 rfl i191_27 sh_78 rfl ?_
      refine vZne 34 31 rfl i191_28 rfl rfl ?_ ?_
      · refine vLan 35 i191_34 rfl rfl ?_
        refine vLan 36 i191_35 rfl rfl ?_
        refine vGet 39 i191_36 f191_39 sh_77 rfl rfl ?_
        refine vCallV 42 [.ref 77, vi (s3 77 9)] [] [(0, .ref 77), (1, vi (s3 77 9))] i191_39 rfl (xlk0 l191_375) (Or.inl rfl) m121 rfl rfl (Nat.le_of_ble_eq_true rfl) (Nat.le_of_ble_eq_true rfl) (Nat.le_of_ble_eq_true rfl) (xh0 sh_77 (by decide)) rfl rfl (fun R1 => c_x8_begins N   (by omega) s3 (s3 77 9)) (fun s5 => ?_)
        refine vLan 43 i191_42 rfl rfl ?_
        refine vKb 45 i191_43 (by decide) rfl ?_
        refine vLin 46 i191_45 rfl rfl ?_
        refine vImul 47 i191_46 rfl ?_
        refine vLin 48 i191_47 rfl rfl ?_
        refine vCallI 51 [.ref 77, vi (24 * a0), vi a1] [] [(0, .ref 77), (1, vi (24 * a0)), (2, vi a1)] i191_48 rfl (xlk0 l191_342) (Or.inl rfl) m175 rfl rfl (Nat.le_of_ble_eq_true rfl) (Nat.le_of_ble_eq_true rfl) (Nat.le_of_ble_eq_true rfl) (xh0 sh_77 (by decide)) rfl rfl (fun R1 => (gm_ok N  110 d (by omega)).1 s5 (24 * a0) a1 R1) (fun s7 v8 => ?_)
        refine vSin0 52 [(3, vi v8), (0, .ref 77), (1, vi a0), (2, vi a1)] i191_51 m191 (by decide) rfl rfl ?_
        refine vLan 53 i191_52 rfl rfl ?_
        refine vLan 54 i191_53 rfl rfl ?_
        refine vGet 57 i191_54 f191_326 sh_77 rfl rfl ?_
        refine vPut 60 i191_57 p191_378 sh_77 rfl rfl (fun s9 => ?_)
        refine vLin 61 i191_60 rfl rfl ?_
        exact vRi i191_61 m191 rfl
      · refine vKb 33 i191_31 (by decide) rfl ?_
        exact vRi i191_33 m191 rfl
    · refine vKb 21 i191_19 (by decide) rfl ?_
      exact vRi i191_21 m191 rfl
theorem i172_0 : xIns xg 172 0 = some (.aload_n 0) := by decide +kernel
theorem i172_1 : xIns xg 172 1 = some (.bipush 24) := by decide +kernel
theorem i172_3 : xIns xg 172 3 = some (.iload_n 1) := by decide +kernel
theorem i172_4 : xIns xg 172 4 = some (.imul) := by decide +kernel
theorem i172_5 : xIns xg 172 5 = some (.iload_n 2) := by decide +kernel
theorem i172_6 : xIns xg 172 6 = some (.invokevirtual 342) := by decide +kernel
theorem i172_9 : xIns xg 172 9 = some (.istore_n 3) := by decide +kernel
theorem m172 : (xMet xg 172).2.2 = (4, (some .int)) := by decide +kernel
theorem i172_10 : xIns xg 172 10 = some (.iload_n 3) := by decide +kernel
theorem i172_11 : xIns xg 172 11 = some (.iconst 1) := by decide +kernel
theorem i172_12 : xIns xg 172 12 = some (.if_icmp .ne 15) := by decide +kernel
theorem i172_27 : xIns xg 172 27 = some (.iload_n 3) := by decide +kernel
theorem i172_28 : xIns xg 172 28 = some (.ireturn) := by decide +kernel
theorem i172_15 : xIns xg 172 15 = some (.aload_n 0) := by decide +kernel
theorem i172_16 : xIns xg 172 16 = some (.bipush 24) := by decide +kernel
theorem i172_18 : xIns xg 172 18 = some (.iload_n 1) := by decide +kernel
theorem i172_19 : xIns xg 172 19 = some (.imul) := by decide +kernel
theorem i172_20 : xIns xg 172 20 = some (.iload_n 2) := by decide +kernel
theorem i172_21 : xIns xg 172 21 = some (.invokevirtual 348) := by decide +kernel
theorem i172_24 : xIns xg 172 24 = some (.goto 4) := by decide +kernel
def d_x8_outcome (N : Nat)  (s : St) (a0 : Int) (a1 : Int) : Option Rs :=
  bI ((gm N  110).1 s (24 * a0) a1) fun s1 v2 => (if (w32 v2) = 1 then bI ((gm N  110).2 s1 (24 * a0) a1) fun s3 v4 => some (s3, v4) else some (s1, v2))
set_option maxHeartbeats 4000000 in
set_option maxRecDepth 100000 in
theorem c_x8_outcome {sc : xS} {d : Nat} {R : Rs} (N : Nat)  (hd : 551 ≤ d)   (s : St) (a0 : Int) (a1 : Int) : d_x8_outcome N  s a0 a1 = some R → vT sc d 172 0 [(0, .ref 77), (1, vi a0), (2, vi a1)] [] s (fun r => r = qI R) := by
  obtain ⟨d, rfl⟩ : ∃ d', d = d' + 1 := ⟨d - 1, by omega⟩
  unfold d_x8_outcome
  refine vLan 1 i172_0 rfl rfl ?_
  refine vKb 3 i172_1 (by decide) rfl ?_
  refine vLin 4 i172_3 rfl rfl ?_
  refine vImul 5 i172_4 rfl ?_
  refine vLin 6 i172_5 rfl rfl ?_
  refine vCallI 9 [.ref 77, vi (24 * a0), vi a1] [] [(0, .ref 77), (1, vi (24 * a0)), (2, vi a1)] i172_6 rfl (xlk0 l172_342) (Or.inl rfl) m175 rfl rfl (Nat.le_of_ble_eq_true rfl) (Nat.le_of_ble_eq_true rfl) (Nat.le_of_ble_eq_true rfl) (xh0 sh_77 (by decide)) rfl rfl (fun R1 => (gm_ok N  110 d (by omega)).1 s (24 * a0) a1 R1) (fun s1 v2 => ?_)
  refine vSin0 10 [(3, vi v2), (0, .ref 77), (1, vi a0), (2, vi a1)] i172_9 m172 (by decide) rfl rfl ?_
  refine vLin 11 i172_10 rfl rfl ?_
  refine vK 12 i172_11 rfl ?_
  refine vCne 27 15 rfl (show w32 1 = 1 from rfl) i172_12 rfl rfl ?_ ?_
  · refine vLin 28 i172_27 rfl rfl ?_
    exact vRi i172_28 m172 rfl
  · refine vLan 16 i172_15 rfl rfl ?_
    refine vKb 18 i172_16 (by decide) rfl ?_
    refine vLin 19 i172_18 rfl rfl ?_
    refine vImul 20 i172_19 rfl ?_
    refine vLin 21 i172_20 rfl rfl ?_
    refine vCallI 24 [.ref 77, vi (24 * a0), vi a1] [] [(0, .ref 77), (1, vi (24 * a0)), (2, vi a1)] i172_21 rfl (xlk0 l172_348) (Or.inl rfl) m140 rfl rfl (Nat.le_of_ble_eq_true rfl) (Nat.le_of_ble_eq_true rfl) (Nat.le_of_ble_eq_true rfl) (xh0 sh_77 (by decide)) rfl rfl (fun R1 => (gm_ok N  110 d (by omega)).2 s1 (24 * a0) a1 R1) (fun s3 v4 => ?_)
    refine vGo 28 i172_24 rfl ?_
    exact vRi i172_28 m172 rfl
theorem f144_13 : xFld xg 144 13 = some (7, 1) := by decide +kernel
theorem f144_39 : xFld xg 144 39 = some (7, 9) := by decide +kernel
theorem f144_326 : xFld xg 144 326 = some (7, 36) := by decide +kernel
theorem i144_0 : xIns xg 144 0 = some (.iload_n 1) := by decide +kernel
theorem i144_1 : xIns xg 144 1 = some (.invokestatic 266) := by decide +kernel
theorem i144_4 : xIns xg 144 4 = some (.ifCond .eq 15) := by decide +kernel
theorem i144_19 : xIns xg 144 19 = some (.bipush (-2)) := by decide +kernel
theorem i144_21 : xIns xg 144 21 = some (.ireturn) := by decide +kernel
theorem m144 : (xMet xg 144).2.2 = (4, (some .int)) := by decide +kernel
theorem i144_7 : xIns xg 144 7 = some (.iload_n 2) := by decide +kernel
theorem i144_8 : xIns xg 144 8 = some (.i2l) := by decide +kernel
theorem i144_9 : xIns xg 144 9 = some (.lconst 0) := by decide +kernel
theorem i144_10 : xIns xg 144 10 = some (.ldc2_w 373) := by decide +kernel
theorem c144_373 : xCon xg 144 373 = some (vl (63)) := by decide +kernel
theorem i144_13 : xIns xg 144 13 = some (.invokestatic 177) := by decide +kernel
theorem i144_16 : xIns xg 144 16 = some (.ifCond .ne 6) := by decide +kernel
theorem i144_22 : xIns xg 144 22 = some (.aload_n 0) := by decide +kernel
theorem i144_23 : xIns xg 144 23 = some (.getfield 13) := by decide +kernel
theorem i144_26 : xIns xg 144 26 = some (.iload_n 1) := by decide +kernel
theorem i144_27 : xIns xg 144 27 = some (.iaload) := by decide +kernel
theorem i144_28 : xIns xg 144 28 = some (.ifCond .ne 6) := by decide +kernel
theorem i144_34 : xIns xg 144 34 = some (.aload_n 0) := by decide +kernel
theorem i144_35 : xIns xg 144 35 = some (.aload_n 0) := by decide +kernel
theorem i144_36 : xIns xg 144 36 = some (.getfield 39) := by decide +kernel
theorem i144_39 : xIns xg 144 39 = some (.invokevirtual 375) := by decide +kernel
theorem i144_42 : xIns xg 144 42 = some (.aload_n 0) := by decide +kernel
theorem i144_43 : xIns xg 144 43 = some (.iload_n 1) := by decide +kernel
theorem i144_44 : xIns xg 144 44 = some (.iload_n 2) := by decide +kernel
theorem i144_45 : xIns xg 144 45 = some (.invokevirtual 381) := by decide +kernel
theorem i144_48 : xIns xg 144 48 = some (.istore_n 3) := by decide +kernel
theorem i144_49 : xIns xg 144 49 = some (.aload_n 0) := by decide +kernel
theorem i144_50 : xIns xg 144 50 = some (.aload_n 0) := by decide +kernel
theorem i144_51 : xIns xg 144 51 = some (.getfield 326) := by decide +kernel
theorem i144_54 : xIns xg 144 54 = some (.putfield 378) := by decide +kernel
theorem p144_378 : xPut xg 144 378 = some (7, 39, .int) := by decide +kernel
theorem i144_57 : xIns xg 144 57 = some (.iload_n 3) := by decide +kernel
theorem i144_58 : xIns xg 144 58 = some (.ireturn) := by decide +kernel
theorem i144_31 : xIns xg 144 31 = some (.bipush (-3)) := by decide +kernel
theorem i144_33 : xIns xg 144 33 = some (.ireturn) := by decide +kernel
def d_x8_is (N : Nat)  (s : St) (a0 : Int) (a1 : Int) : Option Rs :=
  bI (d_x8_isStream N  s a0) fun s1 v2 => (if (w32 v2) = 0 then some (s1, (-2)) else bI (d_x8_in N  s1 (w32 a1) 0 63) fun s3 v4 => (if (w32 v4) = 0 then some (s3, (-2)) else if 0 ≤ (w32 a0) ∧ (w32 a0) < ((8 : Nat) : Int) then (if (w32 (s3 78 (Int.toNat (w32 a0)))) = 0 then some (s3, (-3)) else bV (d_x8_begins N  s3 (s3 77 9)) fun s5 => bI (d_x8_outcome N  s5 a0 a1) fun s7 v8 => bd (up s7 77 39 (s7 77 36)) fun s9 => some (s9, v8)) else none))
set_option maxHeartbeats 4000000 in
set_option maxRecDepth 100000 in
theorem c_x8_is {sc : xS} {d : Nat} {R : Rs} (N : Nat)  (hd : 552 ≤ d)   (s : St) (a0 : Int) (a1 : Int) : d_x8_is N  s a0 a1 = some R → vT sc d 144 0 [(0, .ref 77), (1, vi a0), (2, vi a1)] [] s (fun r => r = qI R) := by
  obtain ⟨d, rfl⟩ : ∃ d', d = d' + 1 := ⟨d - 1, by omega⟩
  unfold d_x8_is
  refine vLin 1 i144_0 rfl rfl ?_
  refine vCallI 4 [vi a0] [] [(0, vi a0)] i144_1 rfl (xlk1 l144_266) (Or.inr (Or.inl rfl)) m153 rfl rfl (Nat.le_of_ble_eq_true rfl) (Nat.le_of_ble_eq_true rfl) (Nat.le_of_ble_eq_true rfl) rfl rfl rfl (fun R1 => c_x8_isStream N   (by omega) s a0) (fun s1 v2 => ?_)
  refine vZeq 19 7 rfl i144_4 rfl rfl ?_ ?_
  · refine vKb 21 i144_19 (by decide) rfl ?_
    exact vRi i144_21 m144 rfl
  · refine vLin 8 i144_7 rfl rfl ?_
    refine vI2l 9 i144_8 rfl ?_
    refine vKl 10 0 i144_9 (by decide) rfl ?_
    refine vKd 13 i144_10 c144_373 rfl ?_
    refine vCallI 16 [vl (w32 a1), vl 0, vl 63] [] [(0, vl (w32 a1)), (2, vl 0), (4, vl 63)] i144_13 rfl (xlk1 l144_177) (Or.inr (Or.inl rfl)) m142 rfl rfl (Nat.le_of_ble_eq_true rfl) (Nat.le_of_ble_eq_true rfl) (Nat.le_of_ble_eq_true rfl) rfl rfl rfl (fun R1 => c_x8_in N   (by omega) s1 (w32 a1) 0 63) (fun s3 v4 => ?_)
    refine vZne 22 19 rfl i144_16 rfl rfl ?_ ?_
    · refine vLan 23 i144_22 rfl rfl ?_
      refine vGetC 26 i144_23 f144_13 sh_77 rfl rfl ?_
      refine vLin 27 i144_26 rfl rfl ?_
      refine vIal 28 rfl i144_27 sh_78 rfl ?_
      refine vZne 34 31 rfl i144_28 rfl rfl ?_ ?_
      · refine vLan 35 i144_34 rfl rfl ?_
        refine vLan 36 i144_35 rfl rfl ?_
        refine vGet 39 i144_36 f144_39 sh_77 rfl rfl ?_
        refine vCallV 42 [.ref 77, vi (s3 77 9)] [] [(0, .ref 77), (1, vi (s3 77 9))] i144_39 rfl (xlk0 l144_375) (Or.inl rfl) m121 rfl rfl (Nat.le_of_ble_eq_true rfl) (Nat.le_of_ble_eq_true rfl) (Nat.le_of_ble_eq_true rfl) (xh0 sh_77 (by decide)) rfl rfl (fun R1 => c_x8_begins N   (by omega) s3 (s3 77 9)) (fun s5 => ?_)
        refine vLan 43 i144_42 rfl rfl ?_
        refine vLin 44 i144_43 rfl rfl ?_
        refine vLin 45 i144_44 rfl rfl ?_
        refine vCallI 48 [.ref 77, vi a0, vi a1] [] [(0, .ref 77), (1, vi a0), (2, vi a1)] i144_45 rfl (xlk0 l144_381) (Or.inl rfl) m172 rfl rfl (Nat.le_of_ble_eq_true rfl) (Nat.le_of_ble_eq_true rfl) (Nat.le_of_ble_eq_true rfl) (xh0 sh_77 (by decide)) rfl rfl (fun R1 => c_x8_outcome N   (by omega) s5 a0 a1) (fun s7 v8 => ?_)
        refine vSin0 49 [(3, vi v8), (0, .ref 77), (1, vi a0), (2, vi a1)] i144_48 m144 (by decide) rfl rfl ?_
        refine vLan 50 i144_49 rfl rfl ?_
        refine vLan 51 i144_50 rfl rfl ?_
        refine vGet 54 i144_51 f144_326 sh_77 rfl rfl ?_
        refine vPut 57 i144_54 p144_378 sh_77 rfl rfl (fun s9 => ?_)
        refine vLin 58 i144_57 rfl rfl ?_
        exact vRi i144_58 m144 rfl
      · refine vKb 33 i144_31 (by decide) rfl ?_
        exact vRi i144_33 m144 rfl
    · refine vKb 21 i144_19 (by decide) rfl ?_
      exact vRi i144_21 m144 rfl
theorem f139_351 : xFld xg 139 351 = some (7, 38) := by decide +kernel
theorem i139_0 : xIns xg 139 0 = some (.aload_n 0) := by decide +kernel
theorem i139_1 : xIns xg 139 1 = some (.iload_n 1) := by decide +kernel
theorem i139_2 : xIns xg 139 2 = some (.iload_n 2) := by decide +kernel
theorem i139_3 : xIns xg 139 3 = some (.invokevirtual 384) := by decide +kernel
theorem i139_6 : xIns xg 139 6 = some (.iconst 1) := by decide +kernel
theorem i139_7 : xIns xg 139 7 = some (.if_icmp .ne 10) := by decide +kernel
theorem i139_17 : xIns xg 139 17 = some (.ldc2_w 285) := by decide +kernel
theorem c139_285 : xCon xg 139 285 = some (vl (-4611686018427387904)) := by decide +kernel
theorem i139_20 : xIns xg 139 20 = some (.lreturn) := by decide +kernel
theorem m139 : (xMet xg 139).2.2 = (3, (some .long)) := by decide +kernel
theorem i139_10 : xIns xg 139 10 = some (.aload_n 0) := by decide +kernel
theorem i139_11 : xIns xg 139 11 = some (.getfield 351) := by decide +kernel
theorem i139_14 : xIns xg 139 14 = some (.goto 6) := by decide +kernel
def d_x8_head (N : Nat)  (s : St) (a0 : Int) (a1 : Int) : Option Rs :=
  bI (d_x8_is N  s a0 a1) fun s1 v2 => (if (w32 v2) = 1 then some (s1, (s1 77 38)) else some (s1, (-4611686018427387904)))
set_option maxHeartbeats 4000000 in
set_option maxRecDepth 100000 in
theorem c_x8_head {sc : xS} {d : Nat} {R : Rs} (N : Nat)  (hd : 553 ≤ d)   (s : St) (a0 : Int) (a1 : Int) : d_x8_head N  s a0 a1 = some R → vT sc d 139 0 [(0, .ref 77), (1, vi a0), (2, vi a1)] [] s (fun r => r = qL R) := by
  obtain ⟨d, rfl⟩ : ∃ d', d = d' + 1 := ⟨d - 1, by omega⟩
  unfold d_x8_head
  refine vLan 1 i139_0 rfl rfl ?_
  refine vLin 2 i139_1 rfl rfl ?_
  refine vLin 3 i139_2 rfl rfl ?_
  refine vCallI 6 [.ref 77, vi a0, vi a1] [] [(0, .ref 77), (1, vi a0), (2, vi a1)] i139_3 rfl (xlk0 l139_384) (Or.inl rfl) m144 rfl rfl (Nat.le_of_ble_eq_true rfl) (Nat.le_of_ble_eq_true rfl) (Nat.le_of_ble_eq_true rfl) (xh0 sh_77 (by decide)) rfl rfl (fun R1 => c_x8_is N   (by omega) s a0 a1) (fun s1 v2 => ?_)
  refine vK 7 i139_6 rfl ?_
  refine vCne 17 10 rfl (show w32 1 = 1 from rfl) i139_7 rfl rfl ?_ ?_
  · refine vKd 20 i139_17 c139_285 rfl ?_
    exact vRl i139_20 m139
  · refine vLan 11 i139_10 rfl rfl ?_
    refine vGetL 14 i139_11 f139_351 sh_77 rfl rfl ?_
    refine vGo 20 i139_14 rfl ?_
    exact vRl i139_20 m139
theorem f161_106 : xFld xg 161 106 = some (7, 44) := by decide +kernel
theorem f161_58 : xFld xg 161 58 = some (7, 15) := by decide +kernel
theorem f161_109 : xFld xg 161 109 = some (7, 45) := by decide +kernel
theorem f161_61 : xFld xg 161 61 = some (7, 16) := by decide +kernel
theorem f161_112 : xFld xg 161 112 = some (7, 46) := by decide +kernel
theorem f161_64 : xFld xg 161 64 = some (7, 17) := by decide +kernel
theorem f161_94 : xFld xg 161 94 = some (7, 40) := by decide +kernel
theorem f161_42 : xFld xg 161 42 = some (7, 10) := by decide +kernel
theorem f161_97 : xFld xg 161 97 = some (7, 41) := by decide +kernel
theorem f161_45 : xFld xg 161 45 = some (7, 11) := by decide +kernel
theorem f161_100 : xFld xg 161 100 = some (7, 42) := by decide +kernel
theorem f161_52 : xFld xg 161 52 = some (7, 13) := by decide +kernel
theorem f161_103 : xFld xg 161 103 = some (7, 43) := by decide +kernel
theorem f161_55 : xFld xg 161 55 = some (7, 14) := by decide +kernel
theorem i161_65 : xIns xg 161 65 = some (.iload_n 1) := by decide +kernel
theorem i161_66 : xIns xg 161 66 = some (.sipush 12288) := by decide +kernel
theorem i161_69 : xIns xg 161 69 = some (.if_icmp .ge 45) := by decide +kernel
theorem i161_114 : xIns xg 161 114 = some (.return_) := by decide +kernel
theorem m161 : (xMet xg 161).2.2 = (2, none) := by decide +kernel
theorem i161_72 : xIns xg 161 72 = some (.aload_n 0) := by decide +kernel
theorem i161_73 : xIns xg 161 73 = some (.getfield 106) := by decide +kernel
theorem i161_76 : xIns xg 161 76 = some (.iload_n 1) := by decide +kernel
theorem i161_77 : xIns xg 161 77 = some (.aload_n 0) := by decide +kernel
theorem i161_78 : xIns xg 161 78 = some (.getfield 58) := by decide +kernel
theorem i161_81 : xIns xg 161 81 = some (.iload_n 1) := by decide +kernel
theorem i161_82 : xIns xg 161 82 = some (.iaload) := by decide +kernel
theorem i161_83 : xIns xg 161 83 = some (.iastore) := by decide +kernel
theorem i161_84 : xIns xg 161 84 = some (.aload_n 0) := by decide +kernel
theorem i161_85 : xIns xg 161 85 = some (.getfield 109) := by decide +kernel
theorem i161_88 : xIns xg 161 88 = some (.iload_n 1) := by decide +kernel
theorem i161_89 : xIns xg 161 89 = some (.aload_n 0) := by decide +kernel
theorem i161_90 : xIns xg 161 90 = some (.getfield 61) := by decide +kernel
theorem i161_93 : xIns xg 161 93 = some (.iload_n 1) := by decide +kernel
theorem i161_94 : xIns xg 161 94 = some (.laload) := by decide +kernel
theorem i161_95 : xIns xg 161 95 = some (.lastore) := by decide +kernel
theorem i161_96 : xIns xg 161 96 = some (.aload_n 0) := by decide +kernel
theorem i161_97 : xIns xg 161 97 = some (.getfield 112) := by decide +kernel
theorem i161_100 : xIns xg 161 100 = some (.iload_n 1) := by decide +kernel
theorem i161_101 : xIns xg 161 101 = some (.aload_n 0) := by decide +kernel
theorem i161_102 : xIns xg 161 102 = some (.getfield 64) := by decide +kernel
theorem i161_105 : xIns xg 161 105 = some (.iload_n 1) := by decide +kernel
theorem i161_106 : xIns xg 161 106 = some (.iaload) := by decide +kernel
theorem i161_107 : xIns xg 161 107 = some (.iastore) := by decide +kernel
theorem i161_108 : xIns xg 161 108 = some (.iinc 1 1) := by decide +kernel
theorem i161_111 : xIns xg 161 111 = some (.goto (-46)) := by decide +kernel
theorem i161_2 : xIns xg 161 2 = some (.iload_n 1) := by decide +kernel
theorem i161_3 : xIns xg 161 3 = some (.sipush 192) := by decide +kernel
theorem i161_6 : xIns xg 161 6 = some (.if_icmp .ge 57) := by decide +kernel
theorem i161_63 : xIns xg 161 63 = some (.iconst 0) := by decide +kernel
theorem i161_64 : xIns xg 161 64 = some (.istore_n 1) := by decide +kernel
theorem i161_9 : xIns xg 161 9 = some (.aload_n 0) := by decide +kernel
theorem i161_10 : xIns xg 161 10 = some (.getfield 94) := by decide +kernel
theorem i161_13 : xIns xg 161 13 = some (.iload_n 1) := by decide +kernel
theorem i161_14 : xIns xg 161 14 = some (.aload_n 0) := by decide +kernel
theorem i161_15 : xIns xg 161 15 = some (.getfield 42) := by decide +kernel
theorem i161_18 : xIns xg 161 18 = some (.iload_n 1) := by decide +kernel
theorem i161_19 : xIns xg 161 19 = some (.iaload) := by decide +kernel
theorem i161_20 : xIns xg 161 20 = some (.iastore) := by decide +kernel
theorem i161_21 : xIns xg 161 21 = some (.aload_n 0) := by decide +kernel
theorem i161_22 : xIns xg 161 22 = some (.getfield 97) := by decide +kernel
theorem i161_25 : xIns xg 161 25 = some (.iload_n 1) := by decide +kernel
theorem i161_26 : xIns xg 161 26 = some (.aload_n 0) := by decide +kernel
theorem i161_27 : xIns xg 161 27 = some (.getfield 45) := by decide +kernel
theorem i161_30 : xIns xg 161 30 = some (.iload_n 1) := by decide +kernel
theorem i161_31 : xIns xg 161 31 = some (.iaload) := by decide +kernel
theorem i161_32 : xIns xg 161 32 = some (.iastore) := by decide +kernel
theorem i161_33 : xIns xg 161 33 = some (.aload_n 0) := by decide +kernel
theorem i161_34 : xIns xg 161 34 = some (.getfield 100) := by decide +kernel
theorem i161_37 : xIns xg 161 37 = some (.iload_n 1) := by decide +kernel
theorem i161_38 : xIns xg 161 38 = some (.aload_n 0) := by decide +kernel
theorem i161_39 : xIns xg 161 39 = some (.getfield 52) := by decide +kernel
theorem i161_42 : xIns xg 161 42 = some (.iload_n 1) := by decide +kernel
theorem i161_43 : xIns xg 161 43 = some (.iaload) := by decide +kernel
theorem i161_44 : xIns xg 161 44 = some (.iastore) := by decide +kernel
theorem i161_45 : xIns xg 161 45 = some (.aload_n 0) := by decide +kernel
theorem i161_46 : xIns xg 161 46 = some (.getfield 103) := by decide +kernel
theorem i161_49 : xIns xg 161 49 = some (.iload_n 1) := by decide +kernel
theorem i161_50 : xIns xg 161 50 = some (.aload_n 0) := by decide +kernel
theorem i161_51 : xIns xg 161 51 = some (.getfield 55) := by decide +kernel
theorem i161_54 : xIns xg 161 54 = some (.iload_n 1) := by decide +kernel
theorem i161_55 : xIns xg 161 55 = some (.iaload) := by decide +kernel
theorem i161_56 : xIns xg 161 56 = some (.iastore) := by decide +kernel
theorem i161_57 : xIns xg 161 57 = some (.iinc 1 1) := by decide +kernel
theorem i161_60 : xIns xg 161 60 = some (.goto (-58)) := by decide +kernel
theorem i161_0 : xIns xg 161 0 = some (.iconst 0) := by decide +kernel
theorem i161_1 : xIns xg 161 1 = some (.istore_n 1) := by decide +kernel
def d_x8_laysAside_65 (N : Nat)  (k65 : St → Int → Option Rs) (s : St) (x1 : Int) : Option Rs :=
  (if (w32 x1) < 12288 then if 0 ≤ (w32 x1) ∧ (w32 x1) < ((12288 : Nat) : Int) then if 0 ≤ (w32 x1) ∧ (w32 x1) < ((12288 : Nat) : Int) then bd (up s 107 (Int.toNat (w32 x1)) (s 91 (Int.toNat (w32 x1)))) fun s1 => if 0 ≤ (w32 x1) ∧ (w32 x1) < ((12288 : Nat) : Int) then if 0 ≤ (w32 x1) ∧ (w32 x1) < ((12288 : Nat) : Int) then bd (up s1 108 (Int.toNat (w32 x1)) (s1 92 (Int.toNat (w32 x1)))) fun s2 => if 0 ≤ (w32 x1) ∧ (w32 x1) < ((12288 : Nat) : Int) then if 0 ≤ (w32 x1) ∧ (w32 x1) < ((12288 : Nat) : Int) then bd (up s2 109 (Int.toNat (w32 x1)) (s2 93 (Int.toNat (w32 x1)))) fun s3 => bd (x1 + 1) fun v4 => k65 s3 v4 else none else none else none else none else none else none else some (s, 0))
def d_x8_laysAside_65L (N : Nat)  : Nat → St → Int → Option Rs
  | 0 => fun _ _ => none
  | n + 1 => d_x8_laysAside_65 N  (d_x8_laysAside_65L N  n)
set_option maxHeartbeats 4000000 in
set_option maxRecDepth 100000 in
theorem c_x8_laysAside_65 {sc : xS} {d : Nat} {R : Rs} (N : Nat)  (hd : 0 ≤ d)   (k65 : St → Int → Option Rs) (hk65 : ∀ (s : St) (x1 : Int), k65 s x1 = some R → vT sc d 161 65 [(0, .ref 77), (1, vi x1)] [] s (fun r => r = qV R)) (s : St) (x1 : Int) : d_x8_laysAside_65 N  k65 s x1 = some R → vT sc d 161 65 [(0, .ref 77), (1, vi x1)] [] s (fun r => r = qV R) := by
  unfold d_x8_laysAside_65
  refine vLin 66 i161_65 rfl rfl ?_
  refine vKs 69 i161_66 (by decide) rfl ?_
  refine vCge 114 72 rfl (show w32 12288 = 12288 from rfl) i161_69 rfl rfl ?_ ?_
  · exact vR0 i161_114 m161
  · refine vLan 73 i161_72 rfl rfl ?_
    refine vGetC 76 i161_73 f161_106 sh_77 rfl rfl ?_
    refine vLin 77 i161_76 rfl rfl ?_
    refine vLan 78 i161_77 rfl rfl ?_
    refine vGetC 81 i161_78 f161_58 sh_77 rfl rfl ?_
    refine vLin 82 i161_81 rfl rfl ?_
    refine vIal 83 rfl i161_82 sh_91 rfl ?_
    refine vIas 84 rfl i161_83 sh_107 rfl (fun s1 => ?_)
    refine vLan 85 i161_84 rfl rfl ?_
    refine vGetC 88 i161_85 f161_109 sh_77 rfl rfl ?_
    refine vLin 89 i161_88 rfl rfl ?_
    refine vLan 90 i161_89 rfl rfl ?_
    refine vGetC 93 i161_90 f161_61 sh_77 rfl rfl ?_
    refine vLin 94 i161_93 rfl rfl ?_
    refine vLal 95 rfl i161_94 sh_92 rfl ?_
    refine vLas 96 rfl i161_95 sh_108 rfl (fun s2 => ?_)
    refine vLan 97 i161_96 rfl rfl ?_
    refine vGetC 100 i161_97 f161_112 sh_77 rfl rfl ?_
    refine vLin 101 i161_100 rfl rfl ?_
    refine vLan 102 i161_101 rfl rfl ?_
    refine vGetC 105 i161_102 f161_64 sh_77 rfl rfl ?_
    refine vLin 106 i161_105 rfl rfl ?_
    refine vIal 107 rfl i161_106 sh_93 rfl ?_
    refine vIas 108 rfl i161_107 sh_109 rfl (fun s3 => ?_)
    refine vInc 111 (fun v4 => [(1, vi v4), (0, .ref 77)]) i161_108 m161 (by decide) rfl (fun _ => rfl) rfl (fun v4 => ?_)
    refine vGo 65 i161_111 rfl ?_
    exact fun hD => tLc [(0, .ref 77), (1, vi v4)] (xNdk [0, 1] rfl (by decide)) (xNdk [1, 0] rfl (by decide)) ⟨rfl, rfl, trivial⟩ (hk65 s3 v4 hD)
theorem c_x8_laysAside_65L {sc : xS} {d : Nat} {R : Rs} (N : Nat)  (hd : 0 ≤ d)   : ∀ (n : Nat) (s : St) (x1 : Int), d_x8_laysAside_65L N  n s x1 = some R → vT sc d 161 65 [(0, .ref 77), (1, vi x1)] [] s (fun r => r = qV R) := by
  intro n
  induction n with
  | zero => intro s x1 hD; cases hD
  | succ n ih => intro s x1 hD; exact c_x8_laysAside_65 N  hd  _ ih s x1 hD
def d_x8_laysAside_2 (N : Nat)  (k2 : St → Int → Option Rs) (s : St) (x1 : Int) : Option Rs :=
  (if (w32 x1) < 192 then if 0 ≤ (w32 x1) ∧ (w32 x1) < ((192 : Nat) : Int) then if 0 ≤ (w32 x1) ∧ (w32 x1) < ((192 : Nat) : Int) then bd (up s 103 (Int.toNat (w32 x1)) (s 86 (Int.toNat (w32 x1)))) fun s5 => if 0 ≤ (w32 x1) ∧ (w32 x1) < ((192 : Nat) : Int) then if 0 ≤ (w32 x1) ∧ (w32 x1) < ((192 : Nat) : Int) then bd (up s5 104 (Int.toNat (w32 x1)) (s5 87 (Int.toNat (w32 x1)))) fun s6 => if 0 ≤ (w32 x1) ∧ (w32 x1) < ((192 : Nat) : Int) then if 0 ≤ (w32 x1) ∧ (w32 x1) < ((192 : Nat) : Int) then bd (up s6 105 (Int.toNat (w32 x1)) (s6 89 (Int.toNat (w32 x1)))) fun s7 => if 0 ≤ (w32 x1) ∧ (w32 x1) < ((192 : Nat) : Int) then if 0 ≤ (w32 x1) ∧ (w32 x1) < ((192 : Nat) : Int) then bd (up s7 106 (Int.toNat (w32 x1)) (s7 90 (Int.toNat (w32 x1)))) fun s8 => bd (x1 + 1) fun v9 => k2 s8 v9 else none else none else none else none else none else none else none else none else d_x8_laysAside_65L N  N s 0)
def d_x8_laysAside_2L (N : Nat)  : Nat → St → Int → Option Rs
  | 0 => fun _ _ => none
  | n + 1 => d_x8_laysAside_2 N  (d_x8_laysAside_2L N  n)
set_option maxHeartbeats 4000000 in
set_option maxRecDepth 100000 in
theorem c_x8_laysAside_2 {sc : xS} {d : Nat} {R : Rs} (N : Nat)  (hd : 0 ≤ d)   (k2 : St → Int → Option Rs) (hk2 : ∀ (s : St) (x1 : Int), k2 s x1 = some R → vT sc d 161 2 [(0, .ref 77), (1, vi x1)] [] s (fun r => r = qV R)) (s : St) (x1 : Int) : d_x8_laysAside_2 N  k2 s x1 = some R → vT sc d 161 2 [(0, .ref 77), (1, vi x1)] [] s (fun r => r = qV R) := by
  unfold d_x8_laysAside_2
  refine vLin 3 i161_2 rfl rfl ?_
  refine vKs 6 i161_3 (by decide) rfl ?_
  refine vCge 63 9 rfl (show w32 192 = 192 from rfl) i161_6 rfl rfl ?_ ?_
  · refine vK 64 i161_63 rfl ?_
    refine vSin0 65 [(1, vi 0), (0, .ref 77)] i161_64 m161 (by decide) rfl rfl ?_
    exact fun hD => tLc [(0, .ref 77), (1, vi 0)] (xNdk [0, 1] rfl (by decide)) (xNdk [1, 0] rfl (by decide)) ⟨rfl, rfl, trivial⟩ (c_x8_laysAside_65L N  hd  N s 0 hD)
  · refine vLan 10 i161_9 rfl rfl ?_
    refine vGetC 13 i161_10 f161_94 sh_77 rfl rfl ?_
    refine vLin 14 i161_13 rfl rfl ?_
    refine vLan 15 i161_14 rfl rfl ?_
    refine vGetC 18 i161_15 f161_42 sh_77 rfl rfl ?_
    refine vLin 19 i161_18 rfl rfl ?_
    refine vIal 20 rfl i161_19 sh_86 rfl ?_
    refine vIas 21 rfl i161_20 sh_103 rfl (fun s5 => ?_)
    refine vLan 22 i161_21 rfl rfl ?_
    refine vGetC 25 i161_22 f161_97 sh_77 rfl rfl ?_
    refine vLin 26 i161_25 rfl rfl ?_
    refine vLan 27 i161_26 rfl rfl ?_
    refine vGetC 30 i161_27 f161_45 sh_77 rfl rfl ?_
    refine vLin 31 i161_30 rfl rfl ?_
    refine vIal 32 rfl i161_31 sh_87 rfl ?_
    refine vIas 33 rfl i161_32 sh_104 rfl (fun s6 => ?_)
    refine vLan 34 i161_33 rfl rfl ?_
    refine vGetC 37 i161_34 f161_100 sh_77 rfl rfl ?_
    refine vLin 38 i161_37 rfl rfl ?_
    refine vLan 39 i161_38 rfl rfl ?_
    refine vGetC 42 i161_39 f161_52 sh_77 rfl rfl ?_
    refine vLin 43 i161_42 rfl rfl ?_
    refine vIal 44 rfl i161_43 sh_89 rfl ?_
    refine vIas 45 rfl i161_44 sh_105 rfl (fun s7 => ?_)
    refine vLan 46 i161_45 rfl rfl ?_
    refine vGetC 49 i161_46 f161_103 sh_77 rfl rfl ?_
    refine vLin 50 i161_49 rfl rfl ?_
    refine vLan 51 i161_50 rfl rfl ?_
    refine vGetC 54 i161_51 f161_55 sh_77 rfl rfl ?_
    refine vLin 55 i161_54 rfl rfl ?_
    refine vIal 56 rfl i161_55 sh_90 rfl ?_
    refine vIas 57 rfl i161_56 sh_106 rfl (fun s8 => ?_)
    refine vInc 60 (fun v9 => [(1, vi v9), (0, .ref 77)]) i161_57 m161 (by decide) rfl (fun _ => rfl) rfl (fun v9 => ?_)
    refine vGo 2 i161_60 rfl ?_
    exact fun hD => tLc [(0, .ref 77), (1, vi v9)] (xNdk [0, 1] rfl (by decide)) (xNdk [1, 0] rfl (by decide)) ⟨rfl, rfl, trivial⟩ (hk2 s8 v9 hD)
theorem c_x8_laysAside_2L {sc : xS} {d : Nat} {R : Rs} (N : Nat)  (hd : 0 ≤ d)   : ∀ (n : Nat) (s : St) (x1 : Int), d_x8_laysAside_2L N  n s x1 = some R → vT sc d 161 2 [(0, .ref 77), (1, vi x1)] [] s (fun r => r = qV R) := by
  intro n
  induction n with
  | zero => intro s x1 hD; cases hD
  | succ n ih => intro s x1 hD; exact c_x8_laysAside_2 N  hd  _ ih s x1 hD
def d_x8_laysAside (N : Nat)  (s : St)  : Option Rs :=
  d_x8_laysAside_2L N  N s 0
set_option maxHeartbeats 4000000 in
set_option maxRecDepth 100000 in
theorem c_x8_laysAside {sc : xS} {d : Nat} {R : Rs} (N : Nat)  (hd : 0 ≤ d)   (s : St)  : d_x8_laysAside N  s  = some R → vT sc d 161 0 [(0, .ref 77)] [] s (fun r => r = qV R) := by
  unfold d_x8_laysAside
  refine vK 1 i161_0 rfl ?_
  refine vSin0 2 [(1, vi 0), (0, .ref 77)] i161_1 m161 (by decide) rfl rfl ?_
  exact fun hD => tLc [(0, .ref 77), (1, vi 0)] (xNdk [0, 1] rfl (by decide)) (xNdk [1, 0] rfl (by decide)) ⟨rfl, rfl, trivial⟩ (c_x8_laysAside_2L N  hd  N s 0 hD)
theorem f162_58 : xFld xg 162 58 = some (7, 15) := by decide +kernel
theorem f162_106 : xFld xg 162 106 = some (7, 44) := by decide +kernel
theorem f162_61 : xFld xg 162 61 = some (7, 16) := by decide +kernel
theorem f162_109 : xFld xg 162 109 = some (7, 45) := by decide +kernel
theorem f162_64 : xFld xg 162 64 = some (7, 17) := by decide +kernel
theorem f162_112 : xFld xg 162 112 = some (7, 46) := by decide +kernel
theorem f162_42 : xFld xg 162 42 = some (7, 10) := by decide +kernel
theorem f162_94 : xFld xg 162 94 = some (7, 40) := by decide +kernel
theorem f162_45 : xFld xg 162 45 = some (7, 11) := by decide +kernel
theorem f162_97 : xFld xg 162 97 = some (7, 41) := by decide +kernel
theorem f162_52 : xFld xg 162 52 = some (7, 13) := by decide +kernel
theorem f162_100 : xFld xg 162 100 = some (7, 42) := by decide +kernel
theorem f162_55 : xFld xg 162 55 = some (7, 14) := by decide +kernel
theorem f162_103 : xFld xg 162 103 = some (7, 43) := by decide +kernel
theorem i162_65 : xIns xg 162 65 = some (.iload_n 1) := by decide +kernel
theorem i162_66 : xIns xg 162 66 = some (.sipush 12288) := by decide +kernel
theorem i162_69 : xIns xg 162 69 = some (.if_icmp .ge 45) := by decide +kernel
theorem i162_114 : xIns xg 162 114 = some (.return_) := by decide +kernel
theorem m162 : (xMet xg 162).2.2 = (2, none) := by decide +kernel
theorem i162_72 : xIns xg 162 72 = some (.aload_n 0) := by decide +kernel
theorem i162_73 : xIns xg 162 73 = some (.getfield 58) := by decide +kernel
theorem i162_76 : xIns xg 162 76 = some (.iload_n 1) := by decide +kernel
theorem i162_77 : xIns xg 162 77 = some (.aload_n 0) := by decide +kernel
theorem i162_78 : xIns xg 162 78 = some (.getfield 106) := by decide +kernel
theorem i162_81 : xIns xg 162 81 = some (.iload_n 1) := by decide +kernel
theorem i162_82 : xIns xg 162 82 = some (.iaload) := by decide +kernel
theorem i162_83 : xIns xg 162 83 = some (.iastore) := by decide +kernel
theorem i162_84 : xIns xg 162 84 = some (.aload_n 0) := by decide +kernel
theorem i162_85 : xIns xg 162 85 = some (.getfield 61) := by decide +kernel
theorem i162_88 : xIns xg 162 88 = some (.iload_n 1) := by decide +kernel
theorem i162_89 : xIns xg 162 89 = some (.aload_n 0) := by decide +kernel
theorem i162_90 : xIns xg 162 90 = some (.getfield 109) := by decide +kernel
theorem i162_93 : xIns xg 162 93 = some (.iload_n 1) := by decide +kernel
theorem i162_94 : xIns xg 162 94 = some (.laload) := by decide +kernel
theorem i162_95 : xIns xg 162 95 = some (.lastore) := by decide +kernel
theorem i162_96 : xIns xg 162 96 = some (.aload_n 0) := by decide +kernel
theorem i162_97 : xIns xg 162 97 = some (.getfield 64) := by decide +kernel
theorem i162_100 : xIns xg 162 100 = some (.iload_n 1) := by decide +kernel
theorem i162_101 : xIns xg 162 101 = some (.aload_n 0) := by decide +kernel
theorem i162_102 : xIns xg 162 102 = some (.getfield 112) := by decide +kernel
theorem i162_105 : xIns xg 162 105 = some (.iload_n 1) := by decide +kernel
theorem i162_106 : xIns xg 162 106 = some (.iaload) := by decide +kernel
theorem i162_107 : xIns xg 162 107 = some (.iastore) := by decide +kernel
theorem i162_108 : xIns xg 162 108 = some (.iinc 1 1) := by decide +kernel
theorem i162_111 : xIns xg 162 111 = some (.goto (-46)) := by decide +kernel
theorem i162_2 : xIns xg 162 2 = some (.iload_n 1) := by decide +kernel
theorem i162_3 : xIns xg 162 3 = some (.sipush 192) := by decide +kernel
theorem i162_6 : xIns xg 162 6 = some (.if_icmp .ge 57) := by decide +kernel
theorem i162_63 : xIns xg 162 63 = some (.iconst 0) := by decide +kernel
theorem i162_64 : xIns xg 162 64 = some (.istore_n 1) := by decide +kernel
theorem i162_9 : xIns xg 162 9 = some (.aload_n 0) := by decide +kernel
theorem i162_10 : xIns xg 162 10 = some (.getfield 42) := by decide +kernel
theorem i162_13 : xIns xg 162 13 = some (.iload_n 1) := by decide +kernel
theorem i162_14 : xIns xg 162 14 = some (.aload_n 0) := by decide +kernel
theorem i162_15 : xIns xg 162 15 = some (.getfield 94) := by decide +kernel
theorem i162_18 : xIns xg 162 18 = some (.iload_n 1) := by decide +kernel
theorem i162_19 : xIns xg 162 19 = some (.iaload) := by decide +kernel
theorem i162_20 : xIns xg 162 20 = some (.iastore) := by decide +kernel
theorem i162_21 : xIns xg 162 21 = some (.aload_n 0) := by decide +kernel
theorem i162_22 : xIns xg 162 22 = some (.getfield 45) := by decide +kernel
theorem i162_25 : xIns xg 162 25 = some (.iload_n 1) := by decide +kernel
theorem i162_26 : xIns xg 162 26 = some (.aload_n 0) := by decide +kernel
theorem i162_27 : xIns xg 162 27 = some (.getfield 97) := by decide +kernel
theorem i162_30 : xIns xg 162 30 = some (.iload_n 1) := by decide +kernel
theorem i162_31 : xIns xg 162 31 = some (.iaload) := by decide +kernel
theorem i162_32 : xIns xg 162 32 = some (.iastore) := by decide +kernel
theorem i162_33 : xIns xg 162 33 = some (.aload_n 0) := by decide +kernel
theorem i162_34 : xIns xg 162 34 = some (.getfield 52) := by decide +kernel
theorem i162_37 : xIns xg 162 37 = some (.iload_n 1) := by decide +kernel
theorem i162_38 : xIns xg 162 38 = some (.aload_n 0) := by decide +kernel
theorem i162_39 : xIns xg 162 39 = some (.getfield 100) := by decide +kernel
theorem i162_42 : xIns xg 162 42 = some (.iload_n 1) := by decide +kernel
theorem i162_43 : xIns xg 162 43 = some (.iaload) := by decide +kernel
theorem i162_44 : xIns xg 162 44 = some (.iastore) := by decide +kernel
theorem i162_45 : xIns xg 162 45 = some (.aload_n 0) := by decide +kernel
theorem i162_46 : xIns xg 162 46 = some (.getfield 55) := by decide +kernel
theorem i162_49 : xIns xg 162 49 = some (.iload_n 1) := by decide +kernel
theorem i162_50 : xIns xg 162 50 = some (.aload_n 0) := by decide +kernel
theorem i162_51 : xIns xg 162 51 = some (.getfield 103) := by decide +kernel
theorem i162_54 : xIns xg 162 54 = some (.iload_n 1) := by decide +kernel
theorem i162_55 : xIns xg 162 55 = some (.iaload) := by decide +kernel
theorem i162_56 : xIns xg 162 56 = some (.iastore) := by decide +kernel
theorem i162_57 : xIns xg 162 57 = some (.iinc 1 1) := by decide +kernel
theorem i162_60 : xIns xg 162 60 = some (.goto (-58)) := by decide +kernel
theorem i162_0 : xIns xg 162 0 = some (.iconst 0) := by decide +kernel
theorem i162_1 : xIns xg 162 1 = some (.istore_n 1) := by decide +kernel
def d_x8_laysBack_65 (N : Nat)  (k65 : St → Int → Option Rs) (s : St) (x1 : Int) : Option Rs :=
  (if (w32 x1) < 12288 then if 0 ≤ (w32 x1) ∧ (w32 x1) < ((12288 : Nat) : Int) then if 0 ≤ (w32 x1) ∧ (w32 x1) < ((12288 : Nat) : Int) then bd (up s 91 (Int.toNat (w32 x1)) (s 107 (Int.toNat (w32 x1)))) fun s1 => if 0 ≤ (w32 x1) ∧ (w32 x1) < ((12288 : Nat) : Int) then if 0 ≤ (w32 x1) ∧ (w32 x1) < ((12288 : Nat) : Int) then bd (up s1 92 (Int.toNat (w32 x1)) (s1 108 (Int.toNat (w32 x1)))) fun s2 => if 0 ≤ (w32 x1) ∧ (w32 x1) < ((12288 : Nat) : Int) then if 0 ≤ (w32 x1) ∧ (w32 x1) < ((12288 : Nat) : Int) then bd (up s2 93 (Int.toNat (w32 x1)) (s2 109 (Int.toNat (w32 x1)))) fun s3 => bd (x1 + 1) fun v4 => k65 s3 v4 else none else none else none else none else none else none else some (s, 0))
def d_x8_laysBack_65L (N : Nat)  : Nat → St → Int → Option Rs
  | 0 => fun _ _ => none
  | n + 1 => d_x8_laysBack_65 N  (d_x8_laysBack_65L N  n)
set_option maxHeartbeats 4000000 in
set_option maxRecDepth 100000 in
theorem c_x8_laysBack_65 {sc : xS} {d : Nat} {R : Rs} (N : Nat)  (hd : 0 ≤ d)   (k65 : St → Int → Option Rs) (hk65 : ∀ (s : St) (x1 : Int), k65 s x1 = some R → vT sc d 162 65 [(0, .ref 77), (1, vi x1)] [] s (fun r => r = qV R)) (s : St) (x1 : Int) : d_x8_laysBack_65 N  k65 s x1 = some R → vT sc d 162 65 [(0, .ref 77), (1, vi x1)] [] s (fun r => r = qV R) := by
  unfold d_x8_laysBack_65
  refine vLin 66 i162_65 rfl rfl ?_
  refine vKs 69 i162_66 (by decide) rfl ?_
  refine vCge 114 72 rfl (show w32 12288 = 12288 from rfl) i162_69 rfl rfl ?_ ?_
  · exact vR0 i162_114 m162
  · refine vLan 73 i162_72 rfl rfl ?_
    refine vGetC 76 i162_73 f162_58 sh_77 rfl rfl ?_
    refine vLin 77 i162_76 rfl rfl ?_
    refine vLan 78 i162_77 rfl rfl ?_
    refine vGetC 81 i162_78 f162_106 sh_77 rfl rfl ?_
    refine vLin 82 i162_81 rfl rfl ?_
    refine vIal 83 rfl i162_82 sh_107 rfl ?_
    refine vIas 84 rfl i162_83 sh_91 rfl (fun s1 => ?_)
    refine vLan 85 i162_84 rfl rfl ?_
    refine vGetC 88 i162_85 f162_61 sh_77 rfl rfl ?_
    refine vLin 89 i162_88 rfl rfl ?_
    refine vLan 90 i162_89 rfl rfl ?_
    refine vGetC 93 i162_90 f162_109 sh_77 rfl rfl ?_
    refine vLin 94 i162_93 rfl rfl ?_
    refine vLal 95 rfl i162_94 sh_108 rfl ?_
    refine vLas 96 rfl i162_95 sh_92 rfl (fun s2 => ?_)
    refine vLan 97 i162_96 rfl rfl ?_
    refine vGetC 100 i162_97 f162_64 sh_77 rfl rfl ?_
    refine vLin 101 i162_100 rfl rfl ?_
    refine vLan 102 i162_101 rfl rfl ?_
    refine vGetC 105 i162_102 f162_112 sh_77 rfl rfl ?_
    refine vLin 106 i162_105 rfl rfl ?_
    refine vIal 107 rfl i162_106 sh_109 rfl ?_
    refine vIas 108 rfl i162_107 sh_93 rfl (fun s3 => ?_)
    refine vInc 111 (fun v4 => [(1, vi v4), (0, .ref 77)]) i162_108 m162 (by decide) rfl (fun _ => rfl) rfl (fun v4 => ?_)
    refine vGo 65 i162_111 rfl ?_
    exact fun hD => tLc [(0, .ref 77), (1, vi v4)] (xNdk [0, 1] rfl (by decide)) (xNdk [1, 0] rfl (by decide)) ⟨rfl, rfl, trivial⟩ (hk65 s3 v4 hD)
theorem c_x8_laysBack_65L {sc : xS} {d : Nat} {R : Rs} (N : Nat)  (hd : 0 ≤ d)   : ∀ (n : Nat) (s : St) (x1 : Int), d_x8_laysBack_65L N  n s x1 = some R → vT sc d 162 65 [(0, .ref 77), (1, vi x1)] [] s (fun r => r = qV R) := by
  intro n
  induction n with
  | zero => intro s x1 hD; cases hD
  | succ n ih => intro s x1 hD; exact c_x8_laysBack_65 N  hd  _ ih s x1 hD
def d_x8_laysBack_2 (N : Nat)  (k2 : St → Int → Option Rs) (s : St) (x1 : Int) : Option Rs :=
  (if (w32 x1) < 192 then if 0 ≤ (w32 x1) ∧ (w32 x1) < ((192 : Nat) : Int) then if 0 ≤ (w32 x1) ∧ (w32 x1) < ((192 : Nat) : Int) then bd (up s 86 (Int.toNat (w32 x1)) (s 103 (Int.toNat (w32 x1)))) fun s5 => if 0 ≤ (w32 x1) ∧ (w32 x1) < ((192 : Nat) : Int) then if 0 ≤ (w32 x1) ∧ (w32 x1) < ((192 : Nat) : Int) then bd (up s5 87 (Int.toNat (w32 x1)) (s5 104 (Int.toNat (w32 x1)))) fun s6 => if 0 ≤ (w32 x1) ∧ (w32 x1) < ((192 : Nat) : Int) then if 0 ≤ (w32 x1) ∧ (w32 x1) < ((192 : Nat) : Int) then bd (up s6 89 (Int.toNat (w32 x1)) (s6 105 (Int.toNat (w32 x1)))) fun s7 => if 0 ≤ (w32 x1) ∧ (w32 x1) < ((192 : Nat) : Int) then if 0 ≤ (w32 x1) ∧ (w32 x1) < ((192 : Nat) : Int) then bd (up s7 90 (Int.toNat (w32 x1)) (s7 106 (Int.toNat (w32 x1)))) fun s8 => bd (x1 + 1) fun v9 => k2 s8 v9 else none else none else none else none else none else none else none else none else d_x8_laysBack_65L N  N s 0)
def d_x8_laysBack_2L (N : Nat)  : Nat → St → Int → Option Rs
  | 0 => fun _ _ => none
  | n + 1 => d_x8_laysBack_2 N  (d_x8_laysBack_2L N  n)
set_option maxHeartbeats 4000000 in
set_option maxRecDepth 100000 in
theorem c_x8_laysBack_2 {sc : xS} {d : Nat} {R : Rs} (N : Nat)  (hd : 0 ≤ d)   (k2 : St → Int → Option Rs) (hk2 : ∀ (s : St) (x1 : Int), k2 s x1 = some R → vT sc d 162 2 [(0, .ref 77), (1, vi x1)] [] s (fun r => r = qV R)) (s : St) (x1 : Int) : d_x8_laysBack_2 N  k2 s x1 = some R → vT sc d 162 2 [(0, .ref 77), (1, vi x1)] [] s (fun r => r = qV R) := by
  unfold d_x8_laysBack_2
  refine vLin 3 i162_2 rfl rfl ?_
  refine vKs 6 i162_3 (by decide) rfl ?_
  refine vCge 63 9 rfl (show w32 192 = 192 from rfl) i162_6 rfl rfl ?_ ?_
  · refine vK 64 i162_63 rfl ?_
    refine vSin0 65 [(1, vi 0), (0, .ref 77)] i162_64 m162 (by decide) rfl rfl ?_
    exact fun hD => tLc [(0, .ref 77), (1, vi 0)] (xNdk [0, 1] rfl (by decide)) (xNdk [1, 0] rfl (by decide)) ⟨rfl, rfl, trivial⟩ (c_x8_laysBack_65L N  hd  N s 0 hD)
  · refine vLan 10 i162_9 rfl rfl ?_
    refine vGetC 13 i162_10 f162_42 sh_77 rfl rfl ?_
    refine vLin 14 i162_13 rfl rfl ?_
    refine vLan 15 i162_14 rfl rfl ?_
    refine vGetC 18 i162_15 f162_94 sh_77 rfl rfl ?_
    refine vLin 19 i162_18 rfl rfl ?_
    refine vIal 20 rfl i162_19 sh_103 rfl ?_
    refine vIas 21 rfl i162_20 sh_86 rfl (fun s5 => ?_)
    refine vLan 22 i162_21 rfl rfl ?_
    refine vGetC 25 i162_22 f162_45 sh_77 rfl rfl ?_
    refine vLin 26 i162_25 rfl rfl ?_
    refine vLan 27 i162_26 rfl rfl ?_
    refine vGetC 30 i162_27 f162_97 sh_77 rfl rfl ?_
    refine vLin 31 i162_30 rfl rfl ?_
    refine vIal 32 rfl i162_31 sh_104 rfl ?_
    refine vIas 33 rfl i162_32 sh_87 rfl (fun s6 => ?_)
    refine vLan 34 i162_33 rfl rfl ?_
    refine vGetC 37 i162_34 f162_52 sh_77 rfl rfl ?_
    refine vLin 38 i162_37 rfl rfl ?_
    refine vLan 39 i162_38 rfl rfl ?_
    refine vGetC 42 i162_39 f162_100 sh_77 rfl rfl ?_
    refine vLin 43 i162_42 rfl rfl ?_
    refine vIal 44 rfl i162_43 sh_105 rfl ?_
    refine vIas 45 rfl i162_44 sh_89 rfl (fun s7 => ?_)
    refine vLan 46 i162_45 rfl rfl ?_
    refine vGetC 49 i162_46 f162_55 sh_77 rfl rfl ?_
    refine vLin 50 i162_49 rfl rfl ?_
    refine vLan 51 i162_50 rfl rfl ?_
    refine vGetC 54 i162_51 f162_103 sh_77 rfl rfl ?_
    refine vLin 55 i162_54 rfl rfl ?_
    refine vIal 56 rfl i162_55 sh_106 rfl ?_
    refine vIas 57 rfl i162_56 sh_90 rfl (fun s8 => ?_)
    refine vInc 60 (fun v9 => [(1, vi v9), (0, .ref 77)]) i162_57 m162 (by decide) rfl (fun _ => rfl) rfl (fun v9 => ?_)
    refine vGo 2 i162_60 rfl ?_
    exact fun hD => tLc [(0, .ref 77), (1, vi v9)] (xNdk [0, 1] rfl (by decide)) (xNdk [1, 0] rfl (by decide)) ⟨rfl, rfl, trivial⟩ (hk2 s8 v9 hD)
theorem c_x8_laysBack_2L {sc : xS} {d : Nat} {R : Rs} (N : Nat)  (hd : 0 ≤ d)   : ∀ (n : Nat) (s : St) (x1 : Int), d_x8_laysBack_2L N  n s x1 = some R → vT sc d 162 2 [(0, .ref 77), (1, vi x1)] [] s (fun r => r = qV R) := by
  intro n
  induction n with
  | zero => intro s x1 hD; cases hD
  | succ n ih => intro s x1 hD; exact c_x8_laysBack_2 N  hd  _ ih s x1 hD
def d_x8_laysBack (N : Nat)  (s : St)  : Option Rs :=
  d_x8_laysBack_2L N  N s 0
set_option maxHeartbeats 4000000 in
set_option maxRecDepth 100000 in
theorem c_x8_laysBack {sc : xS} {d : Nat} {R : Rs} (N : Nat)  (hd : 0 ≤ d)   (s : St)  : d_x8_laysBack N  s  = some R → vT sc d 162 0 [(0, .ref 77)] [] s (fun r => r = qV R) := by
  unfold d_x8_laysBack
  refine vK 1 i162_0 rfl ?_
  refine vSin0 2 [(1, vi 0), (0, .ref 77)] i162_1 m162 (by decide) rfl rfl ?_
  exact fun hD => tLc [(0, .ref 77), (1, vi 0)] (xNdk [0, 1] rfl (by decide)) (xNdk [1, 0] rfl (by decide)) ⟨rfl, rfl, trivial⟩ (c_x8_laysBack_2L N  hd  N s 0 hD)
theorem f166_13 : xFld xg 166 13 = some (7, 1) := by decide +kernel
theorem f166_326 : xFld xg 166 326 = some (7, 36) := by decide +kernel
theorem i166_0 : xIns xg 166 0 = some (.iload_n 1) := by decide +kernel
theorem i166_1 : xIns xg 166 1 = some (.invokestatic 266) := by decide +kernel
theorem i166_4 : xIns xg 166 4 = some (.ifCond .eq 15) := by decide +kernel
theorem i166_19 : xIns xg 166 19 = some (.bipush (-2)) := by decide +kernel
theorem i166_21 : xIns xg 166 21 = some (.ireturn) := by decide +kernel
theorem m166 : (xMet xg 166).2.2 = (4, (some .int)) := by decide +kernel
theorem i166_7 : xIns xg 166 7 = some (.iload_n 2) := by decide +kernel
theorem i166_8 : xIns xg 166 8 = some (.i2l) := by decide +kernel
theorem i166_9 : xIns xg 166 9 = some (.lconst 0) := by decide +kernel
theorem i166_10 : xIns xg 166 10 = some (.ldc2_w 373) := by decide +kernel
theorem c166_373 : xCon xg 166 373 = some (vl (63)) := by decide +kernel
theorem i166_13 : xIns xg 166 13 = some (.invokestatic 177) := by decide +kernel
theorem i166_16 : xIns xg 166 16 = some (.ifCond .ne 6) := by decide +kernel
theorem i166_22 : xIns xg 166 22 = some (.aload_n 0) := by decide +kernel
theorem i166_23 : xIns xg 166 23 = some (.getfield 13) := by decide +kernel
theorem i166_26 : xIns xg 166 26 = some (.iload_n 1) := by decide +kernel
theorem i166_27 : xIns xg 166 27 = some (.iaload) := by decide +kernel
theorem i166_28 : xIns xg 166 28 = some (.ifCond .ne 6) := by decide +kernel
theorem i166_34 : xIns xg 166 34 = some (.aload_n 0) := by decide +kernel
theorem i166_35 : xIns xg 166 35 = some (.invokevirtual 397) := by decide +kernel
theorem i166_38 : xIns xg 166 38 = some (.aload_n 0) := by decide +kernel
theorem i166_39 : xIns xg 166 39 = some (.bipush 99) := by decide +kernel
theorem i166_41 : xIns xg 166 41 = some (.invokevirtual 375) := by decide +kernel
theorem i166_44 : xIns xg 166 44 = some (.aload_n 0) := by decide +kernel
theorem i166_45 : xIns xg 166 45 = some (.iload_n 1) := by decide +kernel
theorem i166_46 : xIns xg 166 46 = some (.iload_n 2) := by decide +kernel
theorem i166_47 : xIns xg 166 47 = some (.invokevirtual 381) := by decide +kernel
theorem i166_50 : xIns xg 166 50 = some (.istore_n 3) := by decide +kernel
theorem i166_51 : xIns xg 166 51 = some (.aload_n 0) := by decide +kernel
theorem i166_52 : xIns xg 166 52 = some (.invokevirtual 400) := by decide +kernel
theorem i166_55 : xIns xg 166 55 = some (.iload_n 3) := by decide +kernel
theorem i166_56 : xIns xg 166 56 = some (.bipush (-6)) := by decide +kernel
theorem i166_58 : xIns xg 166 58 = some (.if_icmp .ne 8) := by decide +kernel
theorem i166_66 : xIns xg 166 66 = some (.aload_n 0) := by decide +kernel
theorem i166_67 : xIns xg 166 67 = some (.getfield 326) := by decide +kernel
theorem i166_70 : xIns xg 166 70 = some (.ireturn) := by decide +kernel
theorem i166_61 : xIns xg 166 61 = some (.bipush (-6)) := by decide +kernel
theorem i166_63 : xIns xg 166 63 = some (.goto 7) := by decide +kernel
theorem i166_31 : xIns xg 166 31 = some (.bipush (-3)) := by decide +kernel
theorem i166_33 : xIns xg 166 33 = some (.ireturn) := by decide +kernel
def d_x8_need (N : Nat)  (s : St) (a0 : Int) (a1 : Int) : Option Rs :=
  bI (d_x8_isStream N  s a0) fun s1 v2 => (if (w32 v2) = 0 then some (s1, (-2)) else bI (d_x8_in N  s1 (w32 a1) 0 63) fun s3 v4 => (if (w32 v4) = 0 then some (s3, (-2)) else if 0 ≤ (w32 a0) ∧ (w32 a0) < ((8 : Nat) : Int) then (if (w32 (s3 78 (Int.toNat (w32 a0)))) = 0 then some (s3, (-3)) else bV (d_x8_laysAside N  s3 ) fun s5 => bV (d_x8_begins N  s5 99) fun s7 => bI (d_x8_outcome N  s7 a0 a1) fun s9 v10 => bV (d_x8_laysBack N  s9 ) fun s11 => (if (w32 v10) = (-6) then some (s11, (-6)) else some (s11, (s11 77 36)))) else none))
set_option maxHeartbeats 4000000 in
set_option maxRecDepth 100000 in
theorem c_x8_need {sc : xS} {d : Nat} {R : Rs} (N : Nat)  (hd : 552 ≤ d)   (s : St) (a0 : Int) (a1 : Int) : d_x8_need N  s a0 a1 = some R → vT sc d 166 0 [(0, .ref 77), (1, vi a0), (2, vi a1)] [] s (fun r => r = qI R) := by
  obtain ⟨d, rfl⟩ : ∃ d', d = d' + 1 := ⟨d - 1, by omega⟩
  unfold d_x8_need
  refine vLin 1 i166_0 rfl rfl ?_
  refine vCallI 4 [vi a0] [] [(0, vi a0)] i166_1 rfl (xlk1 l166_266) (Or.inr (Or.inl rfl)) m153 rfl rfl (Nat.le_of_ble_eq_true rfl) (Nat.le_of_ble_eq_true rfl) (Nat.le_of_ble_eq_true rfl) rfl rfl rfl (fun R1 => c_x8_isStream N   (by omega) s a0) (fun s1 v2 => ?_)
  refine vZeq 19 7 rfl i166_4 rfl rfl ?_ ?_
  · refine vKb 21 i166_19 (by decide) rfl ?_
    exact vRi i166_21 m166 rfl
  · refine vLin 8 i166_7 rfl rfl ?_
    refine vI2l 9 i166_8 rfl ?_
    refine vKl 10 0 i166_9 (by decide) rfl ?_
    refine vKd 13 i166_10 c166_373 rfl ?_
    refine vCallI 16 [vl (w32 a1), vl 0, vl 63] [] [(0, vl (w32 a1)), (2, vl 0), (4, vl 63)] i166_13 rfl (xlk1 l166_177) (Or.inr (Or.inl rfl)) m142 rfl rfl (Nat.le_of_ble_eq_true rfl) (Nat.le_of_ble_eq_true rfl) (Nat.le_of_ble_eq_true rfl) rfl rfl rfl (fun R1 => c_x8_in N   (by omega) s1 (w32 a1) 0 63) (fun s3 v4 => ?_)
    refine vZne 22 19 rfl i166_16 rfl rfl ?_ ?_
    · refine vLan 23 i166_22 rfl rfl ?_
      refine vGetC 26 i166_23 f166_13 sh_77 rfl rfl ?_
      refine vLin 27 i166_26 rfl rfl ?_
      refine vIal 28 rfl i166_27 sh_78 rfl ?_
      refine vZne 34 31 rfl i166_28 rfl rfl ?_ ?_
      · refine vLan 35 i166_34 rfl rfl ?_
        refine vCallV 38 [.ref 77] [] [(0, .ref 77)] i166_35 rfl (xlk0 l166_397) (Or.inl rfl) m161 rfl rfl (Nat.le_of_ble_eq_true rfl) (Nat.le_of_ble_eq_true rfl) (Nat.le_of_ble_eq_true rfl) (xh0 sh_77 (by decide)) rfl rfl (fun R1 => c_x8_laysAside N   (by omega) s3 ) (fun s5 => ?_)
        refine vLan 39 i166_38 rfl rfl ?_
        refine vKb 41 i166_39 (by decide) rfl ?_
        refine vCallV 44 [.ref 77, vi 99] [] [(0, .ref 77), (1, vi 99)] i166_41 rfl (xlk0 l166_375) (Or.inl rfl) m121 rfl rfl (Nat.le_of_ble_eq_true rfl) (Nat.le_of_ble_eq_true rfl) (Nat.le_of_ble_eq_true rfl) (xh0 sh_77 (by decide)) rfl rfl (fun R1 => c_x8_begins N   (by omega) s5 99) (fun s7 => ?_)
        refine vLan 45 i166_44 rfl rfl ?_
        refine vLin 46 i166_45 rfl rfl ?_
        refine vLin 47 i166_46 rfl rfl ?_
        refine vCallI 50 [.ref 77, vi a0, vi a1] [] [(0, .ref 77), (1, vi a0), (2, vi a1)] i166_47 rfl (xlk0 l166_381) (Or.inl rfl) m172 rfl rfl (Nat.le_of_ble_eq_true rfl) (Nat.le_of_ble_eq_true rfl) (Nat.le_of_ble_eq_true rfl) (xh0 sh_77 (by decide)) rfl rfl (fun R1 => c_x8_outcome N   (by omega) s7 a0 a1) (fun s9 v10 => ?_)
        refine vSin0 51 [(3, vi v10), (0, .ref 77), (1, vi a0), (2, vi a1)] i166_50 m166 (by decide) rfl rfl ?_
        refine vLan 52 i166_51 rfl rfl ?_
        refine vCallV 55 [.ref 77] [] [(0, .ref 77)] i166_52 rfl (xlk0 l166_400) (Or.inl rfl) m162 rfl rfl (Nat.le_of_ble_eq_true rfl) (Nat.le_of_ble_eq_true rfl) (Nat.le_of_ble_eq_true rfl) (xh0 sh_77 (by decide)) rfl rfl (fun R1 => c_x8_laysBack N   (by omega) s9 ) (fun s11 => ?_)
        refine vLin 56 i166_55 rfl rfl ?_
        refine vKb 58 i166_56 (by decide) rfl ?_
        refine vCne 66 61 rfl (show w32 (-6) = (-6) from rfl) i166_58 rfl rfl ?_ ?_
        · refine vLan 67 i166_66 rfl rfl ?_
          refine vGet 70 i166_67 f166_326 sh_77 rfl rfl ?_
          exact vRi i166_70 m166 rfl
        · refine vKb 63 i166_61 (by decide) rfl ?_
          refine vGo 70 i166_63 rfl ?_
          exact vRi i166_70 m166 rfl
      · refine vKb 33 i166_31 (by decide) rfl ?_
        exact vRi i166_33 m166 rfl
    · refine vKb 21 i166_19 (by decide) rfl ?_
      exact vRi i166_21 m166 rfl
theorem f163_39 : xFld xg 163 39 = some (7, 9) := by decide +kernel
theorem i163_0 : xIns xg 163 0 = some (.iload_n 1) := by decide +kernel
theorem i163_1 : xIns xg 163 1 = some (.i2l) := by decide +kernel
theorem i163_2 : xIns xg 163 2 = some (.lconst 0) := by decide +kernel
theorem i163_3 : xIns xg 163 3 = some (.ldc2_w 387) := by decide +kernel
theorem c163_387 : xCon xg 163 387 = some (vl (99)) := by decide +kernel
theorem i163_6 : xIns xg 163 6 = some (.invokestatic 177) := by decide +kernel
theorem i163_9 : xIns xg 163 9 = some (.ifCond .ne 6) := by decide +kernel
theorem i163_15 : xIns xg 163 15 = some (.aload_n 0) := by decide +kernel
theorem i163_16 : xIns xg 163 16 = some (.getfield 39) := by decide +kernel
theorem i163_19 : xIns xg 163 19 = some (.istore_n 2) := by decide +kernel
theorem m163 : (xMet xg 163).2.2 = (3, (some .int)) := by decide +kernel
theorem i163_20 : xIns xg 163 20 = some (.aload_n 0) := by decide +kernel
theorem i163_21 : xIns xg 163 21 = some (.iload_n 1) := by decide +kernel
theorem i163_22 : xIns xg 163 22 = some (.putfield 39) := by decide +kernel
theorem p163_39 : xPut xg 163 39 = some (7, 9, .int) := by decide +kernel
theorem i163_25 : xIns xg 163 25 = some (.iload_n 2) := by decide +kernel
theorem i163_26 : xIns xg 163 26 = some (.ireturn) := by decide +kernel
theorem i163_12 : xIns xg 163 12 = some (.bipush (-2)) := by decide +kernel
theorem i163_14 : xIns xg 163 14 = some (.ireturn) := by decide +kernel
def d_x8_limit (N : Nat)  (s : St) (a0 : Int) : Option Rs :=
  bI (d_x8_in N  s (w32 a0) 0 99) fun s1 v2 => (if (w32 v2) = 0 then some (s1, (-2)) else bd (s1 77 9) fun v3 => bd (up s1 77 9 a0) fun s4 => some (s4, v3))
set_option maxHeartbeats 4000000 in
set_option maxRecDepth 100000 in
theorem c_x8_limit {sc : xS} {d : Nat} {R : Rs} (N : Nat)  (hd : 1 ≤ d)   (s : St) (a0 : Int) : d_x8_limit N  s a0 = some R → vT sc d 163 0 [(0, .ref 77), (1, vi a0)] [] s (fun r => r = qI R) := by
  obtain ⟨d, rfl⟩ : ∃ d', d = d' + 1 := ⟨d - 1, by omega⟩
  unfold d_x8_limit
  refine vLin 1 i163_0 rfl rfl ?_
  refine vI2l 2 i163_1 rfl ?_
  refine vKl 3 0 i163_2 (by decide) rfl ?_
  refine vKd 6 i163_3 c163_387 rfl ?_
  refine vCallI 9 [vl (w32 a0), vl 0, vl 99] [] [(0, vl (w32 a0)), (2, vl 0), (4, vl 99)] i163_6 rfl (xlk1 l163_177) (Or.inr (Or.inl rfl)) m142 rfl rfl (Nat.le_of_ble_eq_true rfl) (Nat.le_of_ble_eq_true rfl) (Nat.le_of_ble_eq_true rfl) rfl rfl rfl (fun R1 => c_x8_in N   (by omega) s (w32 a0) 0 99) (fun s1 v2 => ?_)
  refine vZne 15 12 rfl i163_9 rfl rfl ?_ ?_
  · refine vLan 16 i163_15 rfl rfl ?_
    refine vGet 19 i163_16 f163_39 sh_77 rfl rfl ?_
    refine vSin 20 (fun v3 => [(2, vi v3), (0, .ref 77), (1, vi a0)]) i163_19 m163 (by decide) (fun v3 => (rfl : xst1 [(0, .ref 77), (1, vi a0)] 2 (vi v3) = [(2, vi v3), (0, .ref 77), (1, vi a0)])) rfl (fun v3 => ?_)
    refine vLan 21 i163_20 rfl rfl ?_
    refine vLin 22 i163_21 rfl rfl ?_
    refine vPut 25 i163_22 p163_39 sh_77 rfl rfl (fun s4 => ?_)
    refine vLin 26 i163_25 rfl rfl ?_
    exact vRi i163_26 m163 rfl
  · refine vKb 14 i163_12 (by decide) rfl ?_
    exact vRi i163_14 m163 rfl
theorem f192_13 : xFld xg 192 13 = some (7, 1) := by decide +kernel
theorem f192_42 : xFld xg 192 42 = some (7, 10) := by decide +kernel
theorem i192_55 : xIns xg 192 55 = some (.iadd) := by decide +kernel
theorem i192_56 : xIns xg 192 56 = some (.istore_n 2) := by decide +kernel
theorem m192 : (xMet xg 192).2.2 = (5, (some .int)) := by decide +kernel
theorem i192_57 : xIns xg 192 57 = some (.iinc 4 1) := by decide +kernel
theorem i192_60 : xIns xg 192 60 = some (.goto (-47)) := by decide +kernel
theorem i192_13 : xIns xg 192 13 = some (.iload 4) := by decide +kernel
theorem i192_15 : xIns xg 192 15 = some (.aload_n 0) := by decide +kernel
theorem i192_16 : xIns xg 192 16 = some (.getfield 13) := by decide +kernel
theorem i192_19 : xIns xg 192 19 = some (.iload_n 3) := by decide +kernel
theorem i192_20 : xIns xg 192 20 = some (.iaload) := by decide +kernel
theorem i192_21 : xIns xg 192 21 = some (.if_icmp .ge 42) := by decide +kernel
theorem i192_63 : xIns xg 192 63 = some (.iinc 3 1) := by decide +kernel
theorem i192_66 : xIns xg 192 66 = some (.goto (-62)) := by decide +kernel
theorem i192_24 : xIns xg 192 24 = some (.iload_n 2) := by decide +kernel
theorem i192_25 : xIns xg 192 25 = some (.iload_n 1) := by decide +kernel
theorem i192_26 : xIns xg 192 26 = some (.ifCond .ne 18) := by decide +kernel
theorem i192_44 : xIns xg 192 44 = some (.aload_n 0) := by decide +kernel
theorem i192_45 : xIns xg 192 45 = some (.bipush 24) := by decide +kernel
theorem i192_47 : xIns xg 192 47 = some (.iload_n 3) := by decide +kernel
theorem i192_48 : xIns xg 192 48 = some (.imul) := by decide +kernel
theorem i192_49 : xIns xg 192 49 = some (.iload 4) := by decide +kernel
theorem i192_51 : xIns xg 192 51 = some (.iadd) := by decide +kernel
theorem i192_52 : xIns xg 192 52 = some (.invokevirtual 279) := by decide +kernel
theorem i192_29 : xIns xg 192 29 = some (.aload_n 0) := by decide +kernel
theorem i192_30 : xIns xg 192 30 = some (.getfield 42) := by decide +kernel
theorem i192_33 : xIns xg 192 33 = some (.bipush 24) := by decide +kernel
theorem i192_35 : xIns xg 192 35 = some (.iload_n 3) := by decide +kernel
theorem i192_36 : xIns xg 192 36 = some (.imul) := by decide +kernel
theorem i192_37 : xIns xg 192 37 = some (.iload 4) := by decide +kernel
theorem i192_39 : xIns xg 192 39 = some (.iadd) := by decide +kernel
theorem i192_40 : xIns xg 192 40 = some (.iaload) := by decide +kernel
theorem i192_41 : xIns xg 192 41 = some (.goto 14) := by decide +kernel
theorem i192_4 : xIns xg 192 4 = some (.iload_n 3) := by decide +kernel
theorem i192_5 : xIns xg 192 5 = some (.bipush 8) := by decide +kernel
theorem i192_7 : xIns xg 192 7 = some (.if_icmp .ge 62) := by decide +kernel
theorem i192_69 : xIns xg 192 69 = some (.iload_n 2) := by decide +kernel
theorem i192_70 : xIns xg 192 70 = some (.ireturn) := by decide +kernel
theorem i192_10 : xIns xg 192 10 = some (.iconst 0) := by decide +kernel
theorem i192_11 : xIns xg 192 11 = some (.istore 4) := by decide +kernel
theorem i192_0 : xIns xg 192 0 = some (.iconst 0) := by decide +kernel
theorem i192_1 : xIns xg 192 1 = some (.istore_n 2) := by decide +kernel
theorem i192_2 : xIns xg 192 2 = some (.iconst 0) := by decide +kernel
theorem i192_3 : xIns xg 192 3 = some (.istore_n 3) := by decide +kernel
def d_x8_toldAll_55 (N : Nat) (k4 : St → Int → Int → Int → Option Rs) (k13 : St → Int → Int → Int → Int → Option Rs) (s : St) (x1 : Int) (x3 : Int) (x4 : Int) (z0 : Int) (z1 : Int) : Option Rs :=
  bd (z1 + z0) fun v1 => bd (x4 + 1) fun v2 => k13 s x1 v1 x3 v2
set_option maxHeartbeats 4000000 in
set_option maxRecDepth 100000 in
theorem c_x8_toldAll_55 {sc : xS} {d : Nat} {R : Rs} (N : Nat)  (hd : 1 ≤ d) (k4 : St → Int → Int → Int → Option Rs) (hk4 : ∀ (s : St) (x1 : Int) (x2 : Int) (x3 : Int), k4 s x1 x2 x3 = some R → vT sc d 192 4 [(0, .ref 77), (1, vi x1), (2, vi x2), (3, vi x3)] [] s (fun r => r = qI R)) (k13 : St → Int → Int → Int → Int → Option Rs) (hk13 : ∀ (s : St) (x1 : Int) (x2 : Int) (x3 : Int) (x4 : Int), k13 s x1 x2 x3 x4 = some R → vT sc d 192 13 [(0, .ref 77), (1, vi x1), (2, vi x2), (3, vi x3), (4, vi x4)] [] s (fun r => r = qI R))  (s : St) (x1 : Int) (x3 : Int) (x4 : Int) (z0 : Int) (z1 : Int) : d_x8_toldAll_55 N k4 k13 s x1 x3 x4 z0 z1 = some R → vT sc d 192 55 [(0, .ref 77), (1, vi x1), (3, vi x3), (4, vi x4)] [vi z0, vi z1] s (fun r => r = qI R) := by
  obtain ⟨d, rfl⟩ : ∃ d', d = d' + 1 := ⟨d - 1, by omega⟩
  unfold d_x8_toldAll_55
  refine vIadd 56 i192_55 rfl ?_
  refine vSin 57 (fun v1 => [(2, vi v1), (0, .ref 77), (1, vi x1), (3, vi x3), (4, vi x4)]) i192_56 m192 (by decide) (fun v1 => (rfl : xst1 [(0, .ref 77), (1, vi x1), (3, vi x3), (4, vi x4)] 2 (vi v1) = [(2, vi v1), (0, .ref 77), (1, vi x1), (3, vi x3), (4, vi x4)])) rfl (fun v1 => ?_)
  refine vInc 60 (fun v2 => [(4, vi v2), (2, vi v1), (0, .ref 77), (1, vi x1), (3, vi x3)]) i192_57 m192 (by decide) rfl (fun _ => rfl) rfl (fun v2 => ?_)
  refine vGo 13 i192_60 rfl ?_
  exact fun hD => tLc [(0, .ref 77), (1, vi x1), (2, vi v1), (3, vi x3), (4, vi v2)] (xNdk [0, 1, 2, 3, 4] rfl (by decide)) (xNdk [4, 2, 0, 1, 3] rfl (by decide)) ⟨rfl, rfl, rfl, rfl, rfl, trivial⟩ (hk13 s x1 v1 x3 v2 hD)
def d_x8_toldAll_13 (N : Nat) (k4 : St → Int → Int → Int → Option Rs) (k13 : St → Int → Int → Int → Int → Option Rs) (s : St) (x1 : Int) (x2 : Int) (x3 : Int) (x4 : Int) : Option Rs :=
  if 0 ≤ (w32 x3) ∧ (w32 x3) < ((8 : Nat) : Int) then (if (w32 x4) < (w32 (s 78 (Int.toNat (w32 x3)))) then (if (w32 x1) = 0 then if 0 ≤ (w32 ((24 * x3) + x4)) ∧ (w32 ((24 * x3) + x4)) < ((192 : Nat) : Int) then d_x8_toldAll_55 N k4 k13 s x1 x3 x4 (s 86 (Int.toNat (w32 ((24 * x3) + x4)))) x2 else none else bI (d_x8_toldHeads N  s ((24 * x3) + x4)) fun s4 v5 => d_x8_toldAll_55 N k4 k13 s4 x1 x3 x4 v5 x2) else bd (x3 + 1) fun v3 => k4 s x1 x2 v3) else none
def d_x8_toldAll_13L (N : Nat) (k4 : St → Int → Int → Int → Option Rs) : Nat → St → Int → Int → Int → Int → Option Rs
  | 0 => fun _ _ _ _ _ => none
  | n + 1 => d_x8_toldAll_13 N k4 (d_x8_toldAll_13L N k4 n)
set_option maxHeartbeats 4000000 in
set_option maxRecDepth 100000 in
theorem c_x8_toldAll_13 {sc : xS} {d : Nat} {R : Rs} (N : Nat)  (hd : 1 ≤ d) (k4 : St → Int → Int → Int → Option Rs) (hk4 : ∀ (s : St) (x1 : Int) (x2 : Int) (x3 : Int), k4 s x1 x2 x3 = some R → vT sc d 192 4 [(0, .ref 77), (1, vi x1), (2, vi x2), (3, vi x3)] [] s (fun r => r = qI R))  (k13 : St → Int → Int → Int → Int → Option Rs) (hk13 : ∀ (s : St) (x1 : Int) (x2 : Int) (x3 : Int) (x4 : Int), k13 s x1 x2 x3 x4 = some R → vT sc d 192 13 [(0, .ref 77), (1, vi x1), (2, vi x2), (3, vi x3), (4, vi x4)] [] s (fun r => r = qI R)) (s : St) (x1 : Int) (x2 : Int) (x3 : Int) (x4 : Int) : d_x8_toldAll_13 N k4 k13 s x1 x2 x3 x4 = some R → vT sc d 192 13 [(0, .ref 77), (1, vi x1), (2, vi x2), (3, vi x3), (4, vi x4)] [] s (fun r => r = qI R) := by
  obtain ⟨d, rfl⟩ : ∃ d', d = d' + 1 := ⟨d - 1, by omega⟩
  unfold d_x8_toldAll_13
  refine vLi 15 i192_13 rfl rfl ?_
  refine vLan 16 i192_15 rfl rfl ?_
  refine vGetC 19 i192_16 f192_13 sh_77 rfl rfl ?_
  refine vLin 20 i192_19 rfl rfl ?_
  refine vIal 21 rfl i192_20 sh_78 rfl ?_
  refine vCge 63 24 rfl rfl i192_21 rfl rfl ?_ ?_
  · refine vInc 66 (fun v3 => [(3, vi v3), (0, .ref 77), (1, vi x1), (2, vi x2), (4, vi x4)]) i192_63 m192 (by decide) rfl (fun _ => rfl) rfl (fun v3 => ?_)
    refine vGo 4 i192_66 rfl ?_
    exact fun hD => tLc [(0, .ref 77), (1, vi x1), (2, vi x2), (3, vi v3)] (xNdk [0, 1, 2, 3] rfl (by decide)) (xNdk [3, 0, 1, 2, 4] rfl (by decide)) ⟨rfl, rfl, rfl, rfl, trivial⟩ (hk4 s x1 x2 v3 hD)
  · refine vLin 25 i192_24 rfl rfl ?_
    refine vLin 26 i192_25 rfl rfl ?_
    refine vZne 44 29 rfl i192_26 rfl rfl ?_ ?_
    · refine vLan 45 i192_44 rfl rfl ?_
      refine vKb 47 i192_45 (by decide) rfl ?_
      refine vLin 48 i192_47 rfl rfl ?_
      refine vImul 49 i192_48 rfl ?_
      refine vLi 51 i192_49 rfl rfl ?_
      refine vIadd 52 i192_51 rfl ?_
      refine vCallI 55 [.ref 77, vi ((24 * x3) + x4)] [vi x2] [(0, .ref 77), (1, vi ((24 * x3) + x4))] i192_52 rfl (xlk0 l192_279) (Or.inl rfl) m193 rfl rfl (Nat.le_of_ble_eq_true rfl) (Nat.le_of_ble_eq_true rfl) (Nat.le_of_ble_eq_true rfl) (xh0 sh_77 (by decide)) rfl rfl (fun R1 => c_x8_toldHeads N   (by omega) s ((24 * x3) + x4)) (fun s4 v5 => ?_)
      exact fun hD => tLc [(0, .ref 77), (1, vi x1), (3, vi x3), (4, vi x4)] (xNdk [0, 1, 3, 4] rfl (by decide)) (xNdk [0, 1, 2, 3, 4] rfl (by decide)) ⟨rfl, rfl, rfl, rfl, trivial⟩ (c_x8_toldAll_55 N  hd k4 hk4 k13 hk13 s4 x1 x3 x4 v5 x2 hD)
    · refine vLan 30 i192_29 rfl rfl ?_
      refine vGetC 33 i192_30 f192_42 sh_77 rfl rfl ?_
      refine vKb 35 i192_33 (by decide) rfl ?_
      refine vLin 36 i192_35 rfl rfl ?_
      refine vImul 37 i192_36 rfl ?_
      refine vLi 39 i192_37 rfl rfl ?_
      refine vIadd 40 i192_39 rfl ?_
      refine vIal 41 rfl i192_40 sh_86 rfl ?_
      refine vGo 55 i192_41 rfl ?_
      exact fun hD => tLc [(0, .ref 77), (1, vi x1), (3, vi x3), (4, vi x4)] (xNdk [0, 1, 3, 4] rfl (by decide)) (xNdk [0, 1, 2, 3, 4] rfl (by decide)) ⟨rfl, rfl, rfl, rfl, trivial⟩ (c_x8_toldAll_55 N  hd k4 hk4 k13 hk13 s x1 x3 x4 (s 86 (Int.toNat (w32 ((24 * x3) + x4)))) x2 hD)
theorem c_x8_toldAll_13L {sc : xS} {d : Nat} {R : Rs} (N : Nat)  (hd : 1 ≤ d) (k4 : St → Int → Int → Int → Option Rs) (hk4 : ∀ (s : St) (x1 : Int) (x2 : Int) (x3 : Int), k4 s x1 x2 x3 = some R → vT sc d 192 4 [(0, .ref 77), (1, vi x1), (2, vi x2), (3, vi x3)] [] s (fun r => r = qI R))  : ∀ (n : Nat) (s : St) (x1 : Int) (x2 : Int) (x3 : Int) (x4 : Int), d_x8_toldAll_13L N k4 n s x1 x2 x3 x4 = some R → vT sc d 192 13 [(0, .ref 77), (1, vi x1), (2, vi x2), (3, vi x3), (4, vi x4)] [] s (fun r => r = qI R) := by
  intro n
  induction n with
  | zero => intro s x1 x2 x3 x4 hD; cases hD
  | succ n ih => intro s x1 x2 x3 x4 hD; exact c_x8_toldAll_13 N  hd k4 hk4 _ ih s x1 x2 x3 x4 hD
def d_x8_toldAll_4 (N : Nat)  (k4 : St → Int → Int → Int → Option Rs) (s : St) (x1 : Int) (x2 : Int) (x3 : Int) : Option Rs :=
  (if (w32 x3) < 8 then d_x8_toldAll_13L N k4 N s x1 x2 x3 0 else some (s, x2))
def d_x8_toldAll_4L (N : Nat)  : Nat → St → Int → Int → Int → Option Rs
  | 0 => fun _ _ _ _ => none
  | n + 1 => d_x8_toldAll_4 N  (d_x8_toldAll_4L N  n)
set_option maxHeartbeats 4000000 in
set_option maxRecDepth 100000 in
theorem c_x8_toldAll_4 {sc : xS} {d : Nat} {R : Rs} (N : Nat)  (hd : 1 ≤ d)   (k4 : St → Int → Int → Int → Option Rs) (hk4 : ∀ (s : St) (x1 : Int) (x2 : Int) (x3 : Int), k4 s x1 x2 x3 = some R → vT sc d 192 4 [(0, .ref 77), (1, vi x1), (2, vi x2), (3, vi x3)] [] s (fun r => r = qI R)) (s : St) (x1 : Int) (x2 : Int) (x3 : Int) : d_x8_toldAll_4 N  k4 s x1 x2 x3 = some R → vT sc d 192 4 [(0, .ref 77), (1, vi x1), (2, vi x2), (3, vi x3)] [] s (fun r => r = qI R) := by
  obtain ⟨d, rfl⟩ : ∃ d', d = d' + 1 := ⟨d - 1, by omega⟩
  unfold d_x8_toldAll_4
  refine vLin 5 i192_4 rfl rfl ?_
  refine vKb 7 i192_5 (by decide) rfl ?_
  refine vCge 69 10 rfl (show w32 8 = 8 from rfl) i192_7 rfl rfl ?_ ?_
  · refine vLin 70 i192_69 rfl rfl ?_
    exact vRi i192_70 m192 rfl
  · refine vK 11 i192_10 rfl ?_
    refine vSi0 13 [(4, vi 0), (0, .ref 77), (1, vi x1), (2, vi x2), (3, vi x3)] i192_11 m192 (by decide) rfl rfl ?_
    exact fun hD => tLc [(0, .ref 77), (1, vi x1), (2, vi x2), (3, vi x3), (4, vi 0)] (xNdk [0, 1, 2, 3, 4] rfl (by decide)) (xNdk [4, 0, 1, 2, 3] rfl (by decide)) ⟨rfl, rfl, rfl, rfl, rfl, trivial⟩ (c_x8_toldAll_13L N  hd k4 hk4 N s x1 x2 x3 0 hD)
theorem c_x8_toldAll_4L {sc : xS} {d : Nat} {R : Rs} (N : Nat)  (hd : 1 ≤ d)   : ∀ (n : Nat) (s : St) (x1 : Int) (x2 : Int) (x3 : Int), d_x8_toldAll_4L N  n s x1 x2 x3 = some R → vT sc d 192 4 [(0, .ref 77), (1, vi x1), (2, vi x2), (3, vi x3)] [] s (fun r => r = qI R) := by
  intro n
  induction n with
  | zero => intro s x1 x2 x3 hD; cases hD
  | succ n ih => intro s x1 x2 x3 hD; exact c_x8_toldAll_4 N  hd  _ ih s x1 x2 x3 hD
def d_x8_toldAll (N : Nat)  (s : St) (a0 : Int) : Option Rs :=
  d_x8_toldAll_4L N  N s a0 0 0
set_option maxHeartbeats 4000000 in
set_option maxRecDepth 100000 in
theorem c_x8_toldAll {sc : xS} {d : Nat} {R : Rs} (N : Nat)  (hd : 1 ≤ d)   (s : St) (a0 : Int) : d_x8_toldAll N  s a0 = some R → vT sc d 192 0 [(0, .ref 77), (1, vi a0)] [] s (fun r => r = qI R) := by
  obtain ⟨d, rfl⟩ : ∃ d', d = d' + 1 := ⟨d - 1, by omega⟩
  unfold d_x8_toldAll
  refine vK 1 i192_0 rfl ?_
  refine vSin0 2 [(2, vi 0), (0, .ref 77), (1, vi a0)] i192_1 m192 (by decide) rfl rfl ?_
  refine vK 3 i192_2 rfl ?_
  refine vSin0 4 [(3, vi 0), (2, vi 0), (0, .ref 77), (1, vi a0)] i192_3 m192 (by decide) rfl rfl ?_
  exact fun hD => tLc [(0, .ref 77), (1, vi a0), (2, vi 0), (3, vi 0)] (xNdk [0, 1, 2, 3] rfl (by decide)) (xNdk [3, 2, 0, 1] rfl (by decide)) ⟨rfl, rfl, rfl, rfl, trivial⟩ (c_x8_toldAll_4L N  hd  N s a0 0 0 hD)
theorem i135_0 : xIns xg 135 0 = some (.aload_n 0) := by decide +kernel
theorem i135_1 : xIns xg 135 1 = some (.iconst 0) := by decide +kernel
theorem i135_2 : xIns xg 135 2 = some (.invokevirtual 389) := by decide +kernel
theorem i135_5 : xIns xg 135 5 = some (.aload_n 0) := by decide +kernel
theorem i135_6 : xIns xg 135 6 = some (.iconst 1) := by decide +kernel
theorem i135_7 : xIns xg 135 7 = some (.invokevirtual 389) := by decide +kernel
theorem i135_10 : xIns xg 135 10 = some (.iadd) := by decide +kernel
theorem i135_11 : xIns xg 135 11 = some (.istore_n 1) := by decide +kernel
theorem m135 : (xMet xg 135).2.2 = (2, (some .int)) := by decide +kernel
theorem i135_12 : xIns xg 135 12 = some (.aload_n 0) := by decide +kernel
theorem i135_13 : xIns xg 135 13 = some (.invokevirtual 269) := by decide +kernel
theorem i135_16 : xIns xg 135 16 = some (.iload_n 1) := by decide +kernel
theorem i135_17 : xIns xg 135 17 = some (.ireturn) := by decide +kernel
def d_x8_forget (N : Nat)  (s : St)  : Option Rs :=
  bI (d_x8_toldAll N  s 0) fun s1 v2 => bI (d_x8_toldAll N  s1 1) fun s3 v4 => bd (v2 + v4) fun v5 => bV (d_x8_untells N  s3 ) fun s6 => some (s6, v5)
set_option maxHeartbeats 4000000 in
set_option maxRecDepth 100000 in
theorem c_x8_forget {sc : xS} {d : Nat} {R : Rs} (N : Nat)  (hd : 2 ≤ d)   (s : St)  : d_x8_forget N  s  = some R → vT sc d 135 0 [(0, .ref 77)] [] s (fun r => r = qI R) := by
  obtain ⟨d, rfl⟩ : ∃ d', d = d' + 1 := ⟨d - 1, by omega⟩
  unfold d_x8_forget
  refine vLan 1 i135_0 rfl rfl ?_
  refine vK 2 i135_1 rfl ?_
  refine vCallI 5 [.ref 77, vi 0] [] [(0, .ref 77), (1, vi 0)] i135_2 rfl (xlk0 l135_389) (Or.inl rfl) m192 rfl rfl (Nat.le_of_ble_eq_true rfl) (Nat.le_of_ble_eq_true rfl) (Nat.le_of_ble_eq_true rfl) (xh0 sh_77 (by decide)) rfl rfl (fun R1 => c_x8_toldAll N   (by omega) s 0) (fun s1 v2 => ?_)
  refine vLan 6 i135_5 rfl rfl ?_
  refine vK 7 i135_6 rfl ?_
  refine vCallI 10 [.ref 77, vi 1] [vi v2] [(0, .ref 77), (1, vi 1)] i135_7 rfl (xlk0 l135_389) (Or.inl rfl) m192 rfl rfl (Nat.le_of_ble_eq_true rfl) (Nat.le_of_ble_eq_true rfl) (Nat.le_of_ble_eq_true rfl) (xh0 sh_77 (by decide)) rfl rfl (fun R1 => c_x8_toldAll N   (by omega) s1 1) (fun s3 v4 => ?_)
  refine vIadd 11 i135_10 rfl ?_
  refine vSin 12 (fun v5 => [(1, vi v5), (0, .ref 77)]) i135_11 m135 (by decide) (fun v5 => (rfl : xst1 [(0, .ref 77)] 1 (vi v5) = [(1, vi v5), (0, .ref 77)])) rfl (fun v5 => ?_)
  refine vLan 13 i135_12 rfl rfl ?_
  refine vCallV 16 [.ref 77] [] [(0, .ref 77)] i135_13 rfl (xlk0 l135_269) (Or.inl rfl) m195 rfl rfl (Nat.le_of_ble_eq_true rfl) (Nat.le_of_ble_eq_true rfl) (Nat.le_of_ble_eq_true rfl) (xh0 sh_77 (by decide)) rfl rfl (fun R1 => c_x8_untells N   (by omega) s3 ) (fun s6 => ?_)
  refine vLin 17 i135_16 rfl rfl ?_
  exact vRi i135_17 m135 rfl
theorem f145_13 : xFld xg 145 13 = some (7, 1) := by decide +kernel
theorem i145_0 : xIns xg 145 0 = some (.iload_n 1) := by decide +kernel
theorem i145_1 : xIns xg 145 1 = some (.invokestatic 266) := by decide +kernel
theorem i145_4 : xIns xg 145 4 = some (.ifCond .eq 16) := by decide +kernel
theorem i145_20 : xIns xg 145 20 = some (.iconst 0) := by decide +kernel
theorem i145_21 : xIns xg 145 21 = some (.ireturn) := by decide +kernel
theorem m145 : (xMet xg 145).2.2 = (2, (some .boolean)) := by decide +kernel
theorem i145_7 : xIns xg 145 7 = some (.aload_n 0) := by decide +kernel
theorem i145_8 : xIns xg 145 8 = some (.getfield 13) := by decide +kernel
theorem i145_11 : xIns xg 145 11 = some (.iload_n 1) := by decide +kernel
theorem i145_12 : xIns xg 145 12 = some (.iaload) := by decide +kernel
theorem i145_13 : xIns xg 145 13 = some (.ifCond .le 7) := by decide +kernel
theorem i145_16 : xIns xg 145 16 = some (.iconst 1) := by decide +kernel
theorem i145_17 : xIns xg 145 17 = some (.goto 4) := by decide +kernel
def d_x8_isFull (N : Nat)  (s : St) (a0 : Int) : Option Rs :=
  bI (d_x8_isStream N  s a0) fun s1 v2 => (if (w32 v2) = 0 then some (s1, 0) else if 0 ≤ (w32 a0) ∧ (w32 a0) < ((8 : Nat) : Int) then (if 0 < (w32 (s1 78 (Int.toNat (w32 a0)))) then some (s1, 1) else some (s1, 0)) else none)
set_option maxHeartbeats 4000000 in
set_option maxRecDepth 100000 in
theorem c_x8_isFull {sc : xS} {d : Nat} {R : Rs} (N : Nat)  (hd : 2 ≤ d)   (s : St) (a0 : Int) : d_x8_isFull N  s a0 = some R → vT sc d 145 0 [(0, .ref 77), (1, vi a0)] [] s (fun r => r = qI R) := by
  obtain ⟨d, rfl⟩ : ∃ d', d = d' + 1 := ⟨d - 1, by omega⟩
  unfold d_x8_isFull
  refine vLin 1 i145_0 rfl rfl ?_
  refine vCallI 4 [vi a0] [] [(0, vi a0)] i145_1 rfl (xlk1 l145_266) (Or.inr (Or.inl rfl)) m153 rfl rfl (Nat.le_of_ble_eq_true rfl) (Nat.le_of_ble_eq_true rfl) (Nat.le_of_ble_eq_true rfl) rfl rfl rfl (fun R1 => c_x8_isStream N   (by omega) s a0) (fun s1 v2 => ?_)
  refine vZeq 20 7 rfl i145_4 rfl rfl ?_ ?_
  · refine vK 21 i145_20 rfl ?_
    exact vRi i145_21 m145 (by decide)
  · refine vLan 8 i145_7 rfl rfl ?_
    refine vGetC 11 i145_8 f145_13 sh_77 rfl rfl ?_
    refine vLin 12 i145_11 rfl rfl ?_
    refine vIal 13 rfl i145_12 sh_78 rfl ?_
    refine vZle 20 16 rfl i145_13 rfl rfl ?_ ?_
    · refine vK 21 i145_20 rfl ?_
      exact vRi i145_21 m145 (by decide)
    · refine vK 17 i145_16 rfl ?_
      refine vGo 21 i145_17 rfl ?_
      exact vRi i145_21 m145 (by decide)
theorem f185_39 : xFld xg 185 39 = some (7, 9) := by decide +kernel
theorem f185_326 : xFld xg 185 326 = some (7, 36) := by decide +kernel
theorem f185_351 : xFld xg 185 351 = some (7, 38) := by decide +kernel
theorem i185_84 : xIns xg 185 84 = some (.aload_n 0) := by decide +kernel
theorem i185_85 : xIns xg 185 85 = some (.aload_n 0) := by decide +kernel
theorem i185_86 : xIns xg 185 86 = some (.getfield 326) := by decide +kernel
theorem i185_89 : xIns xg 185 89 = some (.putfield 378) := by decide +kernel
theorem p185_378 : xPut xg 185 378 = some (7, 39, .int) := by decide +kernel
theorem i185_92 : xIns xg 185 92 = some (.iload 5) := by decide +kernel
theorem i185_94 : xIns xg 185 94 = some (.ifCond .ge 9) := by decide +kernel
theorem i185_103 : xIns xg 185 103 = some (.lload_n 3) := by decide +kernel
theorem i185_104 : xIns xg 185 104 = some (.lreturn) := by decide +kernel
theorem m185 : (xMet xg 185).2.2 = (7, (some .long)) := by decide +kernel
theorem i185_97 : xIns xg 185 97 = some (.ldc2_w 285) := by decide +kernel
theorem c185_285 : xCon xg 185 285 = some (vl (-4611686018427387904)) := by decide +kernel
theorem i185_100 : xIns xg 185 100 = some (.goto 4) := by decide +kernel
theorem i185_76 : xIns xg 185 76 = some (.ladd) := by decide +kernel
theorem i185_77 : xIns xg 185 77 = some (.lstore_n 3) := by decide +kernel
theorem i185_78 : xIns xg 185 78 = some (.iinc 6 1) := by decide +kernel
theorem i185_81 : xIns xg 185 81 = some (.goto (-41)) := by decide +kernel
theorem i185_40 : xIns xg 185 40 = some (.iload 6) := by decide +kernel
theorem i185_42 : xIns xg 185 42 = some (.iload_n 2) := by decide +kernel
theorem i185_43 : xIns xg 185 43 = some (.if_icmp .ge 41) := by decide +kernel
theorem i185_46 : xIns xg 185 46 = some (.iload 5) := by decide +kernel
theorem i185_48 : xIns xg 185 48 = some (.iconst 1) := by decide +kernel
theorem i185_49 : xIns xg 185 49 = some (.if_icmp .ne 35) := by decide +kernel
theorem i185_52 : xIns xg 185 52 = some (.aload_n 0) := by decide +kernel
theorem i185_53 : xIns xg 185 53 = some (.iload_n 1) := by decide +kernel
theorem i185_54 : xIns xg 185 54 = some (.iload 6) := by decide +kernel
theorem i185_56 : xIns xg 185 56 = some (.invokevirtual 381) := by decide +kernel
theorem i185_59 : xIns xg 185 59 = some (.istore 5) := by decide +kernel
theorem i185_61 : xIns xg 185 61 = some (.lload_n 3) := by decide +kernel
theorem i185_62 : xIns xg 185 62 = some (.iload 5) := by decide +kernel
theorem i185_64 : xIns xg 185 64 = some (.iconst 1) := by decide +kernel
theorem i185_65 : xIns xg 185 65 = some (.if_icmp .ne 10) := by decide +kernel
theorem i185_75 : xIns xg 185 75 = some (.lconst 0) := by decide +kernel
theorem i185_68 : xIns xg 185 68 = some (.aload_n 0) := by decide +kernel
theorem i185_69 : xIns xg 185 69 = some (.getfield 351) := by decide +kernel
theorem i185_72 : xIns xg 185 72 = some (.goto 4) := by decide +kernel
theorem i185_0 : xIns xg 185 0 = some (.aload_n 0) := by decide +kernel
theorem i185_1 : xIns xg 185 1 = some (.iload_n 1) := by decide +kernel
theorem i185_2 : xIns xg 185 2 = some (.invokevirtual 392) := by decide +kernel
theorem i185_5 : xIns xg 185 5 = some (.ifCond .eq 15) := by decide +kernel
theorem i185_20 : xIns xg 185 20 = some (.ldc2_w 285) := by decide +kernel
theorem i185_23 : xIns xg 185 23 = some (.lreturn) := by decide +kernel
theorem i185_8 : xIns xg 185 8 = some (.iload_n 2) := by decide +kernel
theorem i185_9 : xIns xg 185 9 = some (.i2l) := by decide +kernel
theorem i185_10 : xIns xg 185 10 = some (.lconst 0) := by decide +kernel
theorem i185_11 : xIns xg 185 11 = some (.ldc2_w 395) := by decide +kernel
theorem c185_395 : xCon xg 185 395 = some (vl (64)) := by decide +kernel
theorem i185_14 : xIns xg 185 14 = some (.invokestatic 177) := by decide +kernel
theorem i185_17 : xIns xg 185 17 = some (.ifCond .ne 7) := by decide +kernel
theorem i185_24 : xIns xg 185 24 = some (.aload_n 0) := by decide +kernel
theorem i185_25 : xIns xg 185 25 = some (.aload_n 0) := by decide +kernel
theorem i185_26 : xIns xg 185 26 = some (.getfield 39) := by decide +kernel
theorem i185_29 : xIns xg 185 29 = some (.invokevirtual 375) := by decide +kernel
theorem i185_32 : xIns xg 185 32 = some (.lconst 0) := by decide +kernel
theorem i185_33 : xIns xg 185 33 = some (.lstore_n 3) := by decide +kernel
theorem i185_34 : xIns xg 185 34 = some (.iconst 1) := by decide +kernel
theorem i185_35 : xIns xg 185 35 = some (.istore 5) := by decide +kernel
theorem i185_37 : xIns xg 185 37 = some (.iconst 0) := by decide +kernel
theorem i185_38 : xIns xg 185 38 = some (.istore 6) := by decide +kernel
def d_x8_sum_84 (N : Nat)  (s : St) (x3 : Int) (x5 : Int) : Option Rs :=
  bd (up s 77 39 (s 77 36)) fun s1 => (if (w32 x5) < 0 then some (s1, (-4611686018427387904)) else some (s1, x3))
set_option maxHeartbeats 4000000 in
set_option maxRecDepth 100000 in
theorem c_x8_sum_84 {sc : xS} {d : Nat} {R : Rs} (N : Nat)  (hd : 552 ≤ d)   (s : St) (x3 : Int) (x5 : Int) : d_x8_sum_84 N  s x3 x5 = some R → vT sc d 185 84 [(0, .ref 77), (3, vl x3), (5, vi x5)] [] s (fun r => r = qL R) := by
  obtain ⟨d, rfl⟩ : ∃ d', d = d' + 1 := ⟨d - 1, by omega⟩
  unfold d_x8_sum_84
  refine vLan 85 i185_84 rfl rfl ?_
  refine vLan 86 i185_85 rfl rfl ?_
  refine vGet 89 i185_86 f185_326 sh_77 rfl rfl ?_
  refine vPut 92 i185_89 p185_378 sh_77 rfl rfl (fun s1 => ?_)
  refine vLi 94 i185_92 rfl rfl ?_
  refine vZge 103 97 rfl i185_94 rfl rfl ?_ ?_
  · refine vLln 104 i185_103 rfl rfl ?_
    exact vRl i185_104 m185
  · refine vKd 100 i185_97 c185_285 rfl ?_
    refine vGo 104 i185_100 rfl ?_
    exact vRl i185_104 m185
def d_x8_sum_76 (N : Nat) (k40 : St → Int → Int → Int → Int → Int → Option Rs) (s : St) (x1 : Int) (x2 : Int) (x5 : Int) (x6 : Int) (z0 : Int) (z1 : Int) : Option Rs :=
  bd (z1 + z0) fun v2 => bd (x6 + 1) fun v3 => k40 s x1 x2 v2 x5 v3
set_option maxHeartbeats 4000000 in
set_option maxRecDepth 100000 in
theorem c_x8_sum_76 {sc : xS} {d : Nat} {R : Rs} (N : Nat)  (hd : 552 ≤ d) (k40 : St → Int → Int → Int → Int → Int → Option Rs) (hk40 : ∀ (s : St) (x1 : Int) (x2 : Int) (x3 : Int) (x5 : Int) (x6 : Int), k40 s x1 x2 x3 x5 x6 = some R → vT sc d 185 40 [(0, .ref 77), (1, vi x1), (2, vi x2), (3, vl x3), (5, vi x5), (6, vi x6)] [] s (fun r => r = qL R))  (s : St) (x1 : Int) (x2 : Int) (x5 : Int) (x6 : Int) (z0 : Int) (z1 : Int) : d_x8_sum_76 N k40 s x1 x2 x5 x6 z0 z1 = some R → vT sc d 185 76 [(0, .ref 77), (1, vi x1), (2, vi x2), (5, vi x5), (6, vi x6)] [vl z0, vl z1] s (fun r => r = qL R) := by
  obtain ⟨d, rfl⟩ : ∃ d', d = d' + 1 := ⟨d - 1, by omega⟩
  unfold d_x8_sum_76
  refine vLadd 77 i185_76 rfl ?_
  refine vSln 78 (fun v2 => [(3, vl v2), (0, .ref 77), (1, vi x1), (2, vi x2), (5, vi x5), (6, vi x6)]) i185_77 m185 (by decide) (fun v2 => (rfl : xst2 [(0, .ref 77), (1, vi x1), (2, vi x2), (5, vi x5), (6, vi x6)] 3 (vl v2) = [(3, vl v2), (0, .ref 77), (1, vi x1), (2, vi x2), (5, vi x5), (6, vi x6)])) rfl (fun v2 => ?_)
  refine vInc 81 (fun v3 => [(6, vi v3), (3, vl v2), (0, .ref 77), (1, vi x1), (2, vi x2), (5, vi x5)]) i185_78 m185 (by decide) rfl (fun _ => rfl) rfl (fun v3 => ?_)
  refine vGo 40 i185_81 rfl ?_
  exact fun hD => tLc [(0, .ref 77), (1, vi x1), (2, vi x2), (3, vl v2), (5, vi x5), (6, vi v3)] (xNdk [0, 1, 2, 3, 5, 6] rfl (by decide)) (xNdk [6, 3, 0, 1, 2, 5] rfl (by decide)) ⟨rfl, rfl, rfl, rfl, rfl, rfl, trivial⟩ (hk40 s x1 x2 v2 x5 v3 hD)
def d_x8_sum_40 (N : Nat)  (k40 : St → Int → Int → Int → Int → Int → Option Rs) (s : St) (x1 : Int) (x2 : Int) (x3 : Int) (x5 : Int) (x6 : Int) : Option Rs :=
  (if (w32 x6) < (w32 x2) then (if (w32 x5) = 1 then bI (d_x8_outcome N  s x1 x6) fun s4 v5 => (if (w32 v5) = 1 then d_x8_sum_76 N k40 s4 x1 x2 v5 x6 (s4 77 38) x3 else d_x8_sum_76 N k40 s4 x1 x2 v5 x6 0 x3) else d_x8_sum_84 N  s x3 x5) else d_x8_sum_84 N  s x3 x5)
def d_x8_sum_40L (N : Nat)  : Nat → St → Int → Int → Int → Int → Int → Option Rs
  | 0 => fun _ _ _ _ _ _ => none
  | n + 1 => d_x8_sum_40 N  (d_x8_sum_40L N  n)
set_option maxHeartbeats 4000000 in
set_option maxRecDepth 100000 in
theorem c_x8_sum_40 {sc : xS} {d : Nat} {R : Rs} (N : Nat)  (hd : 552 ≤ d)   (k40 : St → Int → Int → Int → Int → Int → Option Rs) (hk40 : ∀ (s : St) (x1 : Int) (x2 : Int) (x3 : Int) (x5 : Int) (x6 : Int), k40 s x1 x2 x3 x5 x6 = some R → vT sc d 185 40 [(0, .ref 77), (1, vi x1), (2, vi x2), (3, vl x3), (5, vi x5), (6, vi x6)] [] s (fun r => r = qL R)) (s : St) (x1 : Int) (x2 : Int) (x3 : Int) (x5 : Int) (x6 : Int) : d_x8_sum_40 N  k40 s x1 x2 x3 x5 x6 = some R → vT sc d 185 40 [(0, .ref 77), (1, vi x1), (2, vi x2), (3, vl x3), (5, vi x5), (6, vi x6)] [] s (fun r => r = qL R) := by
  obtain ⟨d, rfl⟩ : ∃ d', d = d' + 1 := ⟨d - 1, by omega⟩
  unfold d_x8_sum_40
  refine vLi 42 i185_40 rfl rfl ?_
  refine vLin 43 i185_42 rfl rfl ?_
  refine vCge 84 46 rfl rfl i185_43 rfl rfl ?_ ?_
  · exact fun hD => tLc [(0, .ref 77), (3, vl x3), (5, vi x5)] (xNdk [0, 3, 5] rfl (by decide)) (xNdk [0, 1, 2, 3, 5, 6] rfl (by decide)) ⟨rfl, rfl, rfl, trivial⟩ (c_x8_sum_84 N  hd  s x3 x5 hD)
  · refine vLi 48 i185_46 rfl rfl ?_
    refine vK 49 i185_48 rfl ?_
    refine vCne 84 52 rfl (show w32 1 = 1 from rfl) i185_49 rfl rfl ?_ ?_
    · exact fun hD => tLc [(0, .ref 77), (3, vl x3), (5, vi x5)] (xNdk [0, 3, 5] rfl (by decide)) (xNdk [0, 1, 2, 3, 5, 6] rfl (by decide)) ⟨rfl, rfl, rfl, trivial⟩ (c_x8_sum_84 N  hd  s x3 x5 hD)
    · refine vLan 53 i185_52 rfl rfl ?_
      refine vLin 54 i185_53 rfl rfl ?_
      refine vLi 56 i185_54 rfl rfl ?_
      refine vCallI 59 [.ref 77, vi x1, vi x6] [] [(0, .ref 77), (1, vi x1), (2, vi x6)] i185_56 rfl (xlk0 l185_381) (Or.inl rfl) m172 rfl rfl (Nat.le_of_ble_eq_true rfl) (Nat.le_of_ble_eq_true rfl) (Nat.le_of_ble_eq_true rfl) (xh0 sh_77 (by decide)) rfl rfl (fun R1 => c_x8_outcome N   (by omega) s x1 x6) (fun s4 v5 => ?_)
      refine vSi0 61 [(5, vi v5), (0, .ref 77), (1, vi x1), (2, vi x2), (3, vl x3), (6, vi x6)] i185_59 m185 (by decide) rfl rfl ?_
      refine vLln 62 i185_61 rfl rfl ?_
      refine vLi 64 i185_62 rfl rfl ?_
      refine vK 65 i185_64 rfl ?_
      refine vCne 75 68 rfl (show w32 1 = 1 from rfl) i185_65 rfl rfl ?_ ?_
      · refine vKl 76 0 i185_75 (by decide) rfl ?_
        exact fun hD => tLc [(0, .ref 77), (1, vi x1), (2, vi x2), (5, vi v5), (6, vi x6)] (xNdk [0, 1, 2, 5, 6] rfl (by decide)) (xNdk [5, 0, 1, 2, 3, 6] rfl (by decide)) ⟨rfl, rfl, rfl, rfl, rfl, trivial⟩ (c_x8_sum_76 N  hd k40 hk40 s4 x1 x2 v5 x6 0 x3 hD)
      · refine vLan 69 i185_68 rfl rfl ?_
        refine vGetL 72 i185_69 f185_351 sh_77 rfl rfl ?_
        refine vGo 76 i185_72 rfl ?_
        exact fun hD => tLc [(0, .ref 77), (1, vi x1), (2, vi x2), (5, vi v5), (6, vi x6)] (xNdk [0, 1, 2, 5, 6] rfl (by decide)) (xNdk [5, 0, 1, 2, 3, 6] rfl (by decide)) ⟨rfl, rfl, rfl, rfl, rfl, trivial⟩ (c_x8_sum_76 N  hd k40 hk40 s4 x1 x2 v5 x6 (s4 77 38) x3 hD)
theorem c_x8_sum_40L {sc : xS} {d : Nat} {R : Rs} (N : Nat)  (hd : 552 ≤ d)   : ∀ (n : Nat) (s : St) (x1 : Int) (x2 : Int) (x3 : Int) (x5 : Int) (x6 : Int), d_x8_sum_40L N  n s x1 x2 x3 x5 x6 = some R → vT sc d 185 40 [(0, .ref 77), (1, vi x1), (2, vi x2), (3, vl x3), (5, vi x5), (6, vi x6)] [] s (fun r => r = qL R) := by
  intro n
  induction n with
  | zero => intro s x1 x2 x3 x5 x6 hD; cases hD
  | succ n ih => intro s x1 x2 x3 x5 x6 hD; exact c_x8_sum_40 N  hd  _ ih s x1 x2 x3 x5 x6 hD
def d_x8_sum (N : Nat)  (s : St) (a0 : Int) (a1 : Int) : Option Rs :=
  bI (d_x8_isFull N  s a0) fun s6 v7 => (if (w32 v7) = 0 then some (s6, (-4611686018427387904)) else bI (d_x8_in N  s6 (w32 a1) 0 64) fun s8 v9 => (if (w32 v9) = 0 then some (s8, (-4611686018427387904)) else bV (d_x8_begins N  s8 (s8 77 9)) fun s10 => d_x8_sum_40L N  N s10 a0 a1 0 1 0))
set_option maxHeartbeats 4000000 in
set_option maxRecDepth 100000 in
theorem c_x8_sum {sc : xS} {d : Nat} {R : Rs} (N : Nat)  (hd : 552 ≤ d)   (s : St) (a0 : Int) (a1 : Int) : d_x8_sum N  s a0 a1 = some R → vT sc d 185 0 [(0, .ref 77), (1, vi a0), (2, vi a1)] [] s (fun r => r = qL R) := by
  obtain ⟨d, rfl⟩ : ∃ d', d = d' + 1 := ⟨d - 1, by omega⟩
  unfold d_x8_sum
  refine vLan 1 i185_0 rfl rfl ?_
  refine vLin 2 i185_1 rfl rfl ?_
  refine vCallI 5 [.ref 77, vi a0] [] [(0, .ref 77), (1, vi a0)] i185_2 rfl (xlk0 l185_392) (Or.inl rfl) m145 rfl rfl (Nat.le_of_ble_eq_true rfl) (Nat.le_of_ble_eq_true rfl) (Nat.le_of_ble_eq_true rfl) (xh0 sh_77 (by decide)) rfl rfl (fun R1 => c_x8_isFull N   (by omega) s a0) (fun s6 v7 => ?_)
  refine vZeq 20 8 rfl i185_5 rfl rfl ?_ ?_
  · refine vKd 23 i185_20 c185_285 rfl ?_
    exact vRl i185_23 m185
  · refine vLin 9 i185_8 rfl rfl ?_
    refine vI2l 10 i185_9 rfl ?_
    refine vKl 11 0 i185_10 (by decide) rfl ?_
    refine vKd 14 i185_11 c185_395 rfl ?_
    refine vCallI 17 [vl (w32 a1), vl 0, vl 64] [] [(0, vl (w32 a1)), (2, vl 0), (4, vl 64)] i185_14 rfl (xlk1 l185_177) (Or.inr (Or.inl rfl)) m142 rfl rfl (Nat.le_of_ble_eq_true rfl) (Nat.le_of_ble_eq_true rfl) (Nat.le_of_ble_eq_true rfl) rfl rfl rfl (fun R1 => c_x8_in N   (by omega) s6 (w32 a1) 0 64) (fun s8 v9 => ?_)
    refine vZne 24 20 rfl i185_17 rfl rfl ?_ ?_
    · refine vLan 25 i185_24 rfl rfl ?_
      refine vLan 26 i185_25 rfl rfl ?_
      refine vGet 29 i185_26 f185_39 sh_77 rfl rfl ?_
      refine vCallV 32 [.ref 77, vi (s8 77 9)] [] [(0, .ref 77), (1, vi (s8 77 9))] i185_29 rfl (xlk0 l185_375) (Or.inl rfl) m121 rfl rfl (Nat.le_of_ble_eq_true rfl) (Nat.le_of_ble_eq_true rfl) (Nat.le_of_ble_eq_true rfl) (xh0 sh_77 (by decide)) rfl rfl (fun R1 => c_x8_begins N   (by omega) s8 (s8 77 9)) (fun s10 => ?_)
      refine vKl 33 0 i185_32 (by decide) rfl ?_
      refine vSln0w 34 [(3, vl 0), (0, .ref 77), (1, vi a0), (2, vi a1)] i185_33 m185 (by decide) rfl rfl ?_
      refine vK 35 i185_34 rfl ?_
      refine vSi0 37 [(5, vi 1), (3, vl 0), (0, .ref 77), (1, vi a0), (2, vi a1)] i185_35 m185 (by decide) rfl rfl ?_
      refine vK 38 i185_37 rfl ?_
      refine vSi0 40 [(6, vi 0), (5, vi 1), (3, vl 0), (0, .ref 77), (1, vi a0), (2, vi a1)] i185_38 m185 (by decide) rfl rfl ?_
      exact fun hD => tLc [(0, .ref 77), (1, vi a0), (2, vi a1), (3, vl 0), (5, vi 1), (6, vi 0)] (xNdk [0, 1, 2, 3, 5, 6] rfl (by decide)) (xNdk [6, 5, 3, 0, 1, 2] rfl (by decide)) ⟨rfl, rfl, rfl, rfl, rfl, rfl, trivial⟩ (c_x8_sum_40L N  hd  N s10 a0 a1 0 1 0 hD)
    · refine vKd 23 i185_20 c185_285 rfl ?_
      exact vRl i185_23 m185
theorem f133_13 : xFld xg 133 13 = some (7, 1) := by decide +kernel
theorem f133_39 : xFld xg 133 39 = some (7, 9) := by decide +kernel
theorem f133_326 : xFld xg 133 326 = some (7, 36) := by decide +kernel
theorem f133_351 : xFld xg 133 351 = some (7, 38) := by decide +kernel
theorem i133_121 : xIns xg 133 121 = some (.aload_n 0) := by decide +kernel
theorem i133_122 : xIns xg 133 122 = some (.aload_n 0) := by decide +kernel
theorem i133_123 : xIns xg 133 123 = some (.getfield 326) := by decide +kernel
theorem i133_126 : xIns xg 133 126 = some (.putfield 378) := by decide +kernel
theorem p133_378 : xPut xg 133 378 = some (7, 39, .int) := by decide +kernel
theorem i133_129 : xIns xg 133 129 = some (.iload 5) := by decide +kernel
theorem i133_131 : xIns xg 133 131 = some (.ireturn) := by decide +kernel
theorem m133 : (xMet xg 133).2.2 = (8, (some .int)) := by decide +kernel
theorem i133_113 : xIns xg 133 113 = some (.istore 5) := by decide +kernel
theorem i133_115 : xIns xg 133 115 = some (.iinc 7 1) := by decide +kernel
theorem i133_118 : xIns xg 133 118 = some (.goto (-66)) := by decide +kernel
theorem i133_100 : xIns xg 133 100 = some (.iload 6) := by decide +kernel
theorem i133_102 : xIns xg 133 102 = some (.bipush (-6)) := by decide +kernel
theorem i133_104 : xIns xg 133 104 = some (.if_icmp .ne 8) := by decide +kernel
theorem i133_112 : xIns xg 133 112 = some (.iconst (-1)) := by decide +kernel
theorem i133_107 : xIns xg 133 107 = some (.bipush (-6)) := by decide +kernel
theorem i133_109 : xIns xg 133 109 = some (.goto 4) := by decide +kernel
theorem i133_52 : xIns xg 133 52 = some (.iload 7) := by decide +kernel
theorem i133_54 : xIns xg 133 54 = some (.iload 4) := by decide +kernel
theorem i133_56 : xIns xg 133 56 = some (.if_icmp .ge 65) := by decide +kernel
theorem i133_59 : xIns xg 133 59 = some (.iload 6) := by decide +kernel
theorem i133_61 : xIns xg 133 61 = some (.iconst 1) := by decide +kernel
theorem i133_62 : xIns xg 133 62 = some (.if_icmp .ne 59) := by decide +kernel
theorem i133_65 : xIns xg 133 65 = some (.iload 5) := by decide +kernel
theorem i133_67 : xIns xg 133 67 = some (.iconst (-1)) := by decide +kernel
theorem i133_68 : xIns xg 133 68 = some (.if_icmp .ne 53) := by decide +kernel
theorem i133_71 : xIns xg 133 71 = some (.aload_n 0) := by decide +kernel
theorem i133_72 : xIns xg 133 72 = some (.iload_n 1) := by decide +kernel
theorem i133_73 : xIns xg 133 73 = some (.iload 7) := by decide +kernel
theorem i133_75 : xIns xg 133 75 = some (.invokevirtual 381) := by decide +kernel
theorem i133_78 : xIns xg 133 78 = some (.istore 6) := by decide +kernel
theorem i133_80 : xIns xg 133 80 = some (.iload 6) := by decide +kernel
theorem i133_82 : xIns xg 133 82 = some (.iconst 1) := by decide +kernel
theorem i133_83 : xIns xg 133 83 = some (.if_icmp .ne 17) := by decide +kernel
theorem i133_86 : xIns xg 133 86 = some (.aload_n 0) := by decide +kernel
theorem i133_87 : xIns xg 133 87 = some (.getfield 351) := by decide +kernel
theorem i133_90 : xIns xg 133 90 = some (.lload_n 2) := by decide +kernel
theorem i133_91 : xIns xg 133 91 = some (.lcmp) := by decide +kernel
theorem i133_92 : xIns xg 133 92 = some (.ifCond .ne 8) := by decide +kernel
theorem i133_95 : xIns xg 133 95 = some (.iload 7) := by decide +kernel
theorem i133_97 : xIns xg 133 97 = some (.goto 16) := by decide +kernel
theorem i133_0 : xIns xg 133 0 = some (.iload_n 1) := by decide +kernel
theorem i133_1 : xIns xg 133 1 = some (.invokestatic 266) := by decide +kernel
theorem i133_4 : xIns xg 133 4 = some (.ifCond .eq 16) := by decide +kernel
theorem i133_20 : xIns xg 133 20 = some (.bipush (-2)) := by decide +kernel
theorem i133_22 : xIns xg 133 22 = some (.ireturn) := by decide +kernel
theorem i133_7 : xIns xg 133 7 = some (.iload 4) := by decide +kernel
theorem i133_9 : xIns xg 133 9 = some (.i2l) := by decide +kernel
theorem i133_10 : xIns xg 133 10 = some (.lconst 0) := by decide +kernel
theorem i133_11 : xIns xg 133 11 = some (.ldc2_w 395) := by decide +kernel
theorem c133_395 : xCon xg 133 395 = some (vl (64)) := by decide +kernel
theorem i133_14 : xIns xg 133 14 = some (.invokestatic 177) := by decide +kernel
theorem i133_17 : xIns xg 133 17 = some (.ifCond .ne 6) := by decide +kernel
theorem i133_23 : xIns xg 133 23 = some (.aload_n 0) := by decide +kernel
theorem i133_24 : xIns xg 133 24 = some (.getfield 13) := by decide +kernel
theorem i133_27 : xIns xg 133 27 = some (.iload_n 1) := by decide +kernel
theorem i133_28 : xIns xg 133 28 = some (.iaload) := by decide +kernel
theorem i133_29 : xIns xg 133 29 = some (.ifCond .ne 6) := by decide +kernel
theorem i133_35 : xIns xg 133 35 = some (.aload_n 0) := by decide +kernel
theorem i133_36 : xIns xg 133 36 = some (.aload_n 0) := by decide +kernel
theorem i133_37 : xIns xg 133 37 = some (.getfield 39) := by decide +kernel
theorem i133_40 : xIns xg 133 40 = some (.invokevirtual 375) := by decide +kernel
theorem i133_43 : xIns xg 133 43 = some (.iconst (-1)) := by decide +kernel
theorem i133_44 : xIns xg 133 44 = some (.istore 5) := by decide +kernel
theorem i133_46 : xIns xg 133 46 = some (.iconst 1) := by decide +kernel
theorem i133_47 : xIns xg 133 47 = some (.istore 6) := by decide +kernel
theorem i133_49 : xIns xg 133 49 = some (.iconst 0) := by decide +kernel
theorem i133_50 : xIns xg 133 50 = some (.istore 7) := by decide +kernel
theorem i133_32 : xIns xg 133 32 = some (.bipush (-3)) := by decide +kernel
theorem i133_34 : xIns xg 133 34 = some (.ireturn) := by decide +kernel
def d_x8_find_121 (N : Nat)  (s : St) (x5 : Int) : Option Rs :=
  bd (up s 77 39 (s 77 36)) fun s1 => some (s1, x5)
set_option maxHeartbeats 4000000 in
set_option maxRecDepth 100000 in
theorem c_x8_find_121 {sc : xS} {d : Nat} {R : Rs} (N : Nat)  (hd : 552 ≤ d)   (s : St) (x5 : Int) : d_x8_find_121 N  s x5 = some R → vT sc d 133 121 [(0, .ref 77), (5, vi x5)] [] s (fun r => r = qI R) := by
  obtain ⟨d, rfl⟩ : ∃ d', d = d' + 1 := ⟨d - 1, by omega⟩
  unfold d_x8_find_121
  refine vLan 122 i133_121 rfl rfl ?_
  refine vLan 123 i133_122 rfl rfl ?_
  refine vGet 126 i133_123 f133_326 sh_77 rfl rfl ?_
  refine vPut 129 i133_126 p133_378 sh_77 rfl rfl (fun s1 => ?_)
  refine vLi 131 i133_129 rfl rfl ?_
  exact vRi i133_131 m133 rfl
def d_x8_find_113 (N : Nat) (k52 : St → Int → Int → Int → Int → Int → Int → Option Rs) (s : St) (x1 : Int) (x2 : Int) (x4 : Int) (x6 : Int) (x7 : Int) (z0 : Int) : Option Rs :=
  bd (x7 + 1) fun v2 => k52 s x1 x2 x4 z0 x6 v2
set_option maxHeartbeats 4000000 in
set_option maxRecDepth 100000 in
theorem c_x8_find_113 {sc : xS} {d : Nat} {R : Rs} (N : Nat)  (hd : 552 ≤ d) (k52 : St → Int → Int → Int → Int → Int → Int → Option Rs) (hk52 : ∀ (s : St) (x1 : Int) (x2 : Int) (x4 : Int) (x5 : Int) (x6 : Int) (x7 : Int), k52 s x1 x2 x4 x5 x6 x7 = some R → vT sc d 133 52 [(0, .ref 77), (1, vi x1), (2, vl x2), (4, vi x4), (5, vi x5), (6, vi x6), (7, vi x7)] [] s (fun r => r = qI R))  (s : St) (x1 : Int) (x2 : Int) (x4 : Int) (x6 : Int) (x7 : Int) (z0 : Int) : d_x8_find_113 N k52 s x1 x2 x4 x6 x7 z0 = some R → vT sc d 133 113 [(0, .ref 77), (1, vi x1), (2, vl x2), (4, vi x4), (6, vi x6), (7, vi x7)] [vi z0] s (fun r => r = qI R) := by
  obtain ⟨d, rfl⟩ : ∃ d', d = d' + 1 := ⟨d - 1, by omega⟩
  unfold d_x8_find_113
  refine vSi0 115 [(5, vi z0), (0, .ref 77), (1, vi x1), (2, vl x2), (4, vi x4), (6, vi x6), (7, vi x7)] i133_113 m133 (by decide) rfl rfl ?_
  refine vInc 118 (fun v2 => [(7, vi v2), (5, vi z0), (0, .ref 77), (1, vi x1), (2, vl x2), (4, vi x4), (6, vi x6)]) i133_115 m133 (by decide) rfl (fun _ => rfl) rfl (fun v2 => ?_)
  refine vGo 52 i133_118 rfl ?_
  exact fun hD => tLc [(0, .ref 77), (1, vi x1), (2, vl x2), (4, vi x4), (5, vi z0), (6, vi x6), (7, vi v2)] (xNdk [0, 1, 2, 4, 5, 6, 7] rfl (by decide)) (xNdk [7, 5, 0, 1, 2, 4, 6] rfl (by decide)) ⟨rfl, rfl, rfl, rfl, rfl, rfl, rfl, trivial⟩ (hk52 s x1 x2 x4 z0 x6 v2 hD)
def d_x8_find_100 (N : Nat) (k52 : St → Int → Int → Int → Int → Int → Int → Option Rs) (s : St) (x1 : Int) (x2 : Int) (x4 : Int) (x6 : Int) (x7 : Int) : Option Rs :=
  (if (w32 x6) = (-6) then d_x8_find_113 N k52 s x1 x2 x4 x6 x7 (-6) else d_x8_find_113 N k52 s x1 x2 x4 x6 x7 (-1))
set_option maxHeartbeats 4000000 in
set_option maxRecDepth 100000 in
theorem c_x8_find_100 {sc : xS} {d : Nat} {R : Rs} (N : Nat)  (hd : 552 ≤ d) (k52 : St → Int → Int → Int → Int → Int → Int → Option Rs) (hk52 : ∀ (s : St) (x1 : Int) (x2 : Int) (x4 : Int) (x5 : Int) (x6 : Int) (x7 : Int), k52 s x1 x2 x4 x5 x6 x7 = some R → vT sc d 133 52 [(0, .ref 77), (1, vi x1), (2, vl x2), (4, vi x4), (5, vi x5), (6, vi x6), (7, vi x7)] [] s (fun r => r = qI R))  (s : St) (x1 : Int) (x2 : Int) (x4 : Int) (x6 : Int) (x7 : Int) : d_x8_find_100 N k52 s x1 x2 x4 x6 x7 = some R → vT sc d 133 100 [(0, .ref 77), (1, vi x1), (2, vl x2), (4, vi x4), (6, vi x6), (7, vi x7)] [] s (fun r => r = qI R) := by
  obtain ⟨d, rfl⟩ : ∃ d', d = d' + 1 := ⟨d - 1, by omega⟩
  unfold d_x8_find_100
  refine vLi 102 i133_100 rfl rfl ?_
  refine vKb 104 i133_102 (by decide) rfl ?_
  refine vCne 112 107 rfl (show w32 (-6) = (-6) from rfl) i133_104 rfl rfl ?_ ?_
  · refine vK 113 i133_112 rfl ?_
    exact fun hD => c_x8_find_113 N  hd k52 hk52 s x1 x2 x4 x6 x7 (-1) hD
  · refine vKb 109 i133_107 (by decide) rfl ?_
    refine vGo 113 i133_109 rfl ?_
    exact fun hD => c_x8_find_113 N  hd k52 hk52 s x1 x2 x4 x6 x7 (-6) hD
def d_x8_find_52 (N : Nat)  (k52 : St → Int → Int → Int → Int → Int → Int → Option Rs) (s : St) (x1 : Int) (x2 : Int) (x4 : Int) (x5 : Int) (x6 : Int) (x7 : Int) : Option Rs :=
  (if (w32 x7) < (w32 x4) then (if (w32 x6) = 1 then (if (w32 x5) = (-1) then bI (d_x8_outcome N  s x1 x7) fun s3 v4 => (if (w32 v4) = 1 then (if (w64 (s3 77 38)) = (w64 x2) then d_x8_find_113 N k52 s3 x1 x2 x4 v4 x7 x7 else d_x8_find_100 N k52 s3 x1 x2 x4 v4 x7) else d_x8_find_100 N k52 s3 x1 x2 x4 v4 x7) else d_x8_find_121 N  s x5) else d_x8_find_121 N  s x5) else d_x8_find_121 N  s x5)
def d_x8_find_52L (N : Nat)  : Nat → St → Int → Int → Int → Int → Int → Int → Option Rs
  | 0 => fun _ _ _ _ _ _ _ => none
  | n + 1 => d_x8_find_52 N  (d_x8_find_52L N  n)
set_option maxHeartbeats 4000000 in
set_option maxRecDepth 100000 in
theorem c_x8_find_52 {sc : xS} {d : Nat} {R : Rs} (N : Nat)  (hd : 552 ≤ d)   (k52 : St → Int → Int → Int → Int → Int → Int → Option Rs) (hk52 : ∀ (s : St) (x1 : Int) (x2 : Int) (x4 : Int) (x5 : Int) (x6 : Int) (x7 : Int), k52 s x1 x2 x4 x5 x6 x7 = some R → vT sc d 133 52 [(0, .ref 77), (1, vi x1), (2, vl x2), (4, vi x4), (5, vi x5), (6, vi x6), (7, vi x7)] [] s (fun r => r = qI R)) (s : St) (x1 : Int) (x2 : Int) (x4 : Int) (x5 : Int) (x6 : Int) (x7 : Int) : d_x8_find_52 N  k52 s x1 x2 x4 x5 x6 x7 = some R → vT sc d 133 52 [(0, .ref 77), (1, vi x1), (2, vl x2), (4, vi x4), (5, vi x5), (6, vi x6), (7, vi x7)] [] s (fun r => r = qI R) := by
  obtain ⟨d, rfl⟩ : ∃ d', d = d' + 1 := ⟨d - 1, by omega⟩
  unfold d_x8_find_52
  refine vLi 54 i133_52 rfl rfl ?_
  refine vLi 56 i133_54 rfl rfl ?_
  refine vCge 121 59 rfl rfl i133_56 rfl rfl ?_ ?_
  · exact fun hD => tLc [(0, .ref 77), (5, vi x5)] (xNdk [0, 5] rfl (by decide)) (xNdk [0, 1, 2, 4, 5, 6, 7] rfl (by decide)) ⟨rfl, rfl, trivial⟩ (c_x8_find_121 N  hd  s x5 hD)
  · refine vLi 61 i133_59 rfl rfl ?_
    refine vK 62 i133_61 rfl ?_
    refine vCne 121 65 rfl (show w32 1 = 1 from rfl) i133_62 rfl rfl ?_ ?_
    · exact fun hD => tLc [(0, .ref 77), (5, vi x5)] (xNdk [0, 5] rfl (by decide)) (xNdk [0, 1, 2, 4, 5, 6, 7] rfl (by decide)) ⟨rfl, rfl, trivial⟩ (c_x8_find_121 N  hd  s x5 hD)
    · refine vLi 67 i133_65 rfl rfl ?_
      refine vK 68 i133_67 rfl ?_
      refine vCne 121 71 rfl (show w32 (-1) = (-1) from rfl) i133_68 rfl rfl ?_ ?_
      · exact fun hD => tLc [(0, .ref 77), (5, vi x5)] (xNdk [0, 5] rfl (by decide)) (xNdk [0, 1, 2, 4, 5, 6, 7] rfl (by decide)) ⟨rfl, rfl, trivial⟩ (c_x8_find_121 N  hd  s x5 hD)
      · refine vLan 72 i133_71 rfl rfl ?_
        refine vLin 73 i133_72 rfl rfl ?_
        refine vLi 75 i133_73 rfl rfl ?_
        refine vCallI 78 [.ref 77, vi x1, vi x7] [] [(0, .ref 77), (1, vi x1), (2, vi x7)] i133_75 rfl (xlk0 l133_381) (Or.inl rfl) m172 rfl rfl (Nat.le_of_ble_eq_true rfl) (Nat.le_of_ble_eq_true rfl) (Nat.le_of_ble_eq_true rfl) (xh0 sh_77 (by decide)) rfl rfl (fun R1 => c_x8_outcome N   (by omega) s x1 x7) (fun s3 v4 => ?_)
        refine vSi0 80 [(6, vi v4), (0, .ref 77), (1, vi x1), (2, vl x2), (4, vi x4), (5, vi x5), (7, vi x7)] i133_78 m133 (by decide) rfl rfl ?_
        refine vLi 82 i133_80 rfl rfl ?_
        refine vK 83 i133_82 rfl ?_
        refine vCne 100 86 rfl (show w32 1 = 1 from rfl) i133_83 rfl rfl ?_ ?_
        · exact fun hD => tLc [(0, .ref 77), (1, vi x1), (2, vl x2), (4, vi x4), (6, vi v4), (7, vi x7)] (xNdk [0, 1, 2, 4, 6, 7] rfl (by decide)) (xNdk [6, 0, 1, 2, 4, 5, 7] rfl (by decide)) ⟨rfl, rfl, rfl, rfl, rfl, rfl, trivial⟩ (c_x8_find_100 N  hd k52 hk52 s3 x1 x2 x4 v4 x7 hD)
        · refine vLan 87 i133_86 rfl rfl ?_
          refine vGetL 90 i133_87 f133_351 sh_77 rfl rfl ?_
          refine vLln 91 i133_90 rfl rfl ?_
          refine vLcne 100 92 95 rfl rfl i133_91 rfl i133_92 rfl rfl ?_ ?_
          · exact fun hD => tLc [(0, .ref 77), (1, vi x1), (2, vl x2), (4, vi x4), (6, vi v4), (7, vi x7)] (xNdk [0, 1, 2, 4, 6, 7] rfl (by decide)) (xNdk [6, 0, 1, 2, 4, 5, 7] rfl (by decide)) ⟨rfl, rfl, rfl, rfl, rfl, rfl, trivial⟩ (c_x8_find_100 N  hd k52 hk52 s3 x1 x2 x4 v4 x7 hD)
          · refine vLi 97 i133_95 rfl rfl ?_
            refine vGo 113 i133_97 rfl ?_
            exact fun hD => tLc [(0, .ref 77), (1, vi x1), (2, vl x2), (4, vi x4), (6, vi v4), (7, vi x7)] (xNdk [0, 1, 2, 4, 6, 7] rfl (by decide)) (xNdk [6, 0, 1, 2, 4, 5, 7] rfl (by decide)) ⟨rfl, rfl, rfl, rfl, rfl, rfl, trivial⟩ (c_x8_find_113 N  hd k52 hk52 s3 x1 x2 x4 v4 x7 x7 hD)
theorem c_x8_find_52L {sc : xS} {d : Nat} {R : Rs} (N : Nat)  (hd : 552 ≤ d)   : ∀ (n : Nat) (s : St) (x1 : Int) (x2 : Int) (x4 : Int) (x5 : Int) (x6 : Int) (x7 : Int), d_x8_find_52L N  n s x1 x2 x4 x5 x6 x7 = some R → vT sc d 133 52 [(0, .ref 77), (1, vi x1), (2, vl x2), (4, vi x4), (5, vi x5), (6, vi x6), (7, vi x7)] [] s (fun r => r = qI R) := by
  intro n
  induction n with
  | zero => intro s x1 x2 x4 x5 x6 x7 hD; cases hD
  | succ n ih => intro s x1 x2 x4 x5 x6 x7 hD; exact c_x8_find_52 N  hd  _ ih s x1 x2 x4 x5 x6 x7 hD
def d_x8_find (N : Nat)  (s : St) (a0 : Int) (a1 : Int) (a2 : Int) : Option Rs :=
  bI (d_x8_isStream N  s a0) fun s5 v6 => (if (w32 v6) = 0 then some (s5, (-2)) else bI (d_x8_in N  s5 (w32 a2) 0 64) fun s7 v8 => (if (w32 v8) = 0 then some (s7, (-2)) else if 0 ≤ (w32 a0) ∧ (w32 a0) < ((8 : Nat) : Int) then (if (w32 (s7 78 (Int.toNat (w32 a0)))) = 0 then some (s7, (-3)) else bV (d_x8_begins N  s7 (s7 77 9)) fun s9 => d_x8_find_52L N  N s9 a0 a1 a2 (-1) 1 0) else none))
set_option maxHeartbeats 4000000 in
set_option maxRecDepth 100000 in
theorem c_x8_find {sc : xS} {d : Nat} {R : Rs} (N : Nat)  (hd : 552 ≤ d)   (s : St) (a0 : Int) (a1 : Int) (a2 : Int) : d_x8_find N  s a0 a1 a2 = some R → vT sc d 133 0 [(0, .ref 77), (1, vi a0), (2, vl a1), (4, vi a2)] [] s (fun r => r = qI R) := by
  obtain ⟨d, rfl⟩ : ∃ d', d = d' + 1 := ⟨d - 1, by omega⟩
  unfold d_x8_find
  refine vLin 1 i133_0 rfl rfl ?_
  refine vCallI 4 [vi a0] [] [(0, vi a0)] i133_1 rfl (xlk1 l133_266) (Or.inr (Or.inl rfl)) m153 rfl rfl (Nat.le_of_ble_eq_true rfl) (Nat.le_of_ble_eq_true rfl) (Nat.le_of_ble_eq_true rfl) rfl rfl rfl (fun R1 => c_x8_isStream N   (by omega) s a0) (fun s5 v6 => ?_)
  refine vZeq 20 7 rfl i133_4 rfl rfl ?_ ?_
  · refine vKb 22 i133_20 (by decide) rfl ?_
    exact vRi i133_22 m133 rfl
  · refine vLi 9 i133_7 rfl rfl ?_
    refine vI2l 10 i133_9 rfl ?_
    refine vKl 11 0 i133_10 (by decide) rfl ?_
    refine vKd 14 i133_11 c133_395 rfl ?_
    refine vCallI 17 [vl (w32 a2), vl 0, vl 64] [] [(0, vl (w32 a2)), (2, vl 0), (4, vl 64)] i133_14 rfl (xlk1 l133_177) (Or.inr (Or.inl rfl)) m142 rfl rfl (Nat.le_of_ble_eq_true rfl) (Nat.le_of_ble_eq_true rfl) (Nat.le_of_ble_eq_true rfl) rfl rfl rfl (fun R1 => c_x8_in N   (by omega) s5 (w32 a2) 0 64) (fun s7 v8 => ?_)
    refine vZne 23 20 rfl i133_17 rfl rfl ?_ ?_
    · refine vLan 24 i133_23 rfl rfl ?_
      refine vGetC 27 i133_24 f133_13 sh_77 rfl rfl ?_
      refine vLin 28 i133_27 rfl rfl ?_
      refine vIal 29 rfl i133_28 sh_78 rfl ?_
      refine vZne 35 32 rfl i133_29 rfl rfl ?_ ?_
      · refine vLan 36 i133_35 rfl rfl ?_
        refine vLan 37 i133_36 rfl rfl ?_
        refine vGet 40 i133_37 f133_39 sh_77 rfl rfl ?_
        refine vCallV 43 [.ref 77, vi (s7 77 9)] [] [(0, .ref 77), (1, vi (s7 77 9))] i133_40 rfl (xlk0 l133_375) (Or.inl rfl) m121 rfl rfl (Nat.le_of_ble_eq_true rfl) (Nat.le_of_ble_eq_true rfl) (Nat.le_of_ble_eq_true rfl) (xh0 sh_77 (by decide)) rfl rfl (fun R1 => c_x8_begins N   (by omega) s7 (s7 77 9)) (fun s9 => ?_)
        refine vK 44 i133_43 rfl ?_
        refine vSi0 46 [(5, vi (-1)), (0, .ref 77), (1, vi a0), (2, vl a1), (4, vi a2)] i133_44 m133 (by decide) rfl rfl ?_
        refine vK 47 i133_46 rfl ?_
        refine vSi0 49 [(6, vi 1), (5, vi (-1)), (0, .ref 77), (1, vi a0), (2, vl a1), (4, vi a2)] i133_47 m133 (by decide) rfl rfl ?_
        refine vK 50 i133_49 rfl ?_
        refine vSi0 52 [(7, vi 0), (6, vi 1), (5, vi (-1)), (0, .ref 77), (1, vi a0), (2, vl a1), (4, vi a2)] i133_50 m133 (by decide) rfl rfl ?_
        exact fun hD => tLc [(0, .ref 77), (1, vi a0), (2, vl a1), (4, vi a2), (5, vi (-1)), (6, vi 1), (7, vi 0)] (xNdk [0, 1, 2, 4, 5, 6, 7] rfl (by decide)) (xNdk [7, 6, 5, 0, 1, 2, 4] rfl (by decide)) ⟨rfl, rfl, rfl, rfl, rfl, rfl, rfl, trivial⟩ (c_x8_find_52L N  hd  N s9 a0 a1 a2 (-1) 1 0 hD)
      · refine vKb 34 i133_32 (by decide) rfl ?_
        exact vRi i133_34 m133 rfl
    · refine vKb 22 i133_20 (by decide) rfl ?_
      exact vRi i133_22 m133 rfl
theorem f126_13 : xFld xg 126 13 = some (7, 1) := by decide +kernel
theorem f126_39 : xFld xg 126 39 = some (7, 9) := by decide +kernel
theorem f126_326 : xFld xg 126 326 = some (7, 36) := by decide +kernel
theorem f126_351 : xFld xg 126 351 = some (7, 38) := by decide +kernel
theorem i126_192 : xIns xg 126 192 = some (.aload_n 0) := by decide +kernel
theorem i126_193 : xIns xg 126 193 = some (.aload_n 0) := by decide +kernel
theorem i126_194 : xIns xg 126 194 = some (.getfield 326) := by decide +kernel
theorem i126_197 : xIns xg 126 197 = some (.putfield 378) := by decide +kernel
theorem p126_378 : xPut xg 126 378 = some (7, 39, .int) := by decide +kernel
theorem i126_200 : xIns xg 126 200 = some (.iload 4) := by decide +kernel
theorem i126_202 : xIns xg 126 202 = some (.ireturn) := by decide +kernel
theorem m126 : (xMet xg 126).2.2 = (11, (some .int)) := by decide +kernel
theorem i126_184 : xIns xg 126 184 = some (.istore 4) := by decide +kernel
theorem i126_186 : xIns xg 126 186 = some (.iinc 6 1) := by decide +kernel
theorem i126_189 : xIns xg 126 189 = some (.goto (-122)) := by decide +kernel
theorem i126_183 : xIns xg 126 183 = some (.iconst (-1)) := by decide +kernel
theorem i126_178 : xIns xg 126 178 = some (.iload 6) := by decide +kernel
theorem i126_180 : xIns xg 126 180 = some (.goto 4) := by decide +kernel
theorem i126_141 : xIns xg 126 141 = some (.istore 5) := by decide +kernel
theorem i126_143 : xIns xg 126 143 = some (.iload 10) := by decide +kernel
theorem i126_145 : xIns xg 126 145 = some (.bipush (-6)) := by decide +kernel
theorem i126_147 : xIns xg 126 147 = some (.if_icmp .ne 8) := by decide +kernel
theorem i126_155 : xIns xg 126 155 = some (.iload 7) := by decide +kernel
theorem i126_157 : xIns xg 126 157 = some (.iload 10) := by decide +kernel
theorem i126_159 : xIns xg 126 159 = some (.if_icmp .ne 19) := by decide +kernel
theorem i126_162 : xIns xg 126 162 = some (.iload 7) := by decide +kernel
theorem i126_164 : xIns xg 126 164 = some (.iconst 1) := by decide +kernel
theorem i126_165 : xIns xg 126 165 = some (.if_icmp .ne 18) := by decide +kernel
theorem i126_168 : xIns xg 126 168 = some (.lload 8) := by decide +kernel
theorem i126_170 : xIns xg 126 170 = some (.aload_n 0) := by decide +kernel
theorem i126_171 : xIns xg 126 171 = some (.getfield 351) := by decide +kernel
theorem i126_174 : xIns xg 126 174 = some (.lcmp) := by decide +kernel
theorem i126_175 : xIns xg 126 175 = some (.ifCond .eq 8) := by decide +kernel
theorem i126_150 : xIns xg 126 150 = some (.bipush (-6)) := by decide +kernel
theorem i126_152 : xIns xg 126 152 = some (.goto 32) := by decide +kernel
theorem i126_140 : xIns xg 126 140 = some (.iconst 0) := by decide +kernel
theorem i126_112 : xIns xg 126 112 = some (.istore 10) := by decide +kernel
theorem i126_114 : xIns xg 126 114 = some (.iload 7) := by decide +kernel
theorem i126_116 : xIns xg 126 116 = some (.iconst 1) := by decide +kernel
theorem i126_117 : xIns xg 126 117 = some (.if_icmp .ne 23) := by decide +kernel
theorem i126_120 : xIns xg 126 120 = some (.iload 10) := by decide +kernel
theorem i126_122 : xIns xg 126 122 = some (.iconst 1) := by decide +kernel
theorem i126_123 : xIns xg 126 123 = some (.if_icmp .ne 17) := by decide +kernel
theorem i126_126 : xIns xg 126 126 = some (.lload 8) := by decide +kernel
theorem i126_128 : xIns xg 126 128 = some (.aload_n 0) := by decide +kernel
theorem i126_129 : xIns xg 126 129 = some (.getfield 351) := by decide +kernel
theorem i126_132 : xIns xg 126 132 = some (.lcmp) := by decide +kernel
theorem i126_133 : xIns xg 126 133 = some (.ifCond .ne 7) := by decide +kernel
theorem i126_136 : xIns xg 126 136 = some (.iconst 1) := by decide +kernel
theorem i126_137 : xIns xg 126 137 = some (.goto 4) := by decide +kernel
theorem i126_67 : xIns xg 126 67 = some (.iload 6) := by decide +kernel
theorem i126_69 : xIns xg 126 69 = some (.iload_n 3) := by decide +kernel
theorem i126_70 : xIns xg 126 70 = some (.if_icmp .ge 122) := by decide +kernel
theorem i126_73 : xIns xg 126 73 = some (.iload 5) := by decide +kernel
theorem i126_75 : xIns xg 126 75 = some (.ifCond .eq 117) := by decide +kernel
theorem i126_78 : xIns xg 126 78 = some (.aload_n 0) := by decide +kernel
theorem i126_79 : xIns xg 126 79 = some (.iload_n 1) := by decide +kernel
theorem i126_80 : xIns xg 126 80 = some (.iload 6) := by decide +kernel
theorem i126_82 : xIns xg 126 82 = some (.invokevirtual 381) := by decide +kernel
theorem i126_85 : xIns xg 126 85 = some (.istore 7) := by decide +kernel
theorem i126_87 : xIns xg 126 87 = some (.aload_n 0) := by decide +kernel
theorem i126_88 : xIns xg 126 88 = some (.getfield 351) := by decide +kernel
theorem i126_91 : xIns xg 126 91 = some (.lstore 8) := by decide +kernel
theorem i126_93 : xIns xg 126 93 = some (.iload 7) := by decide +kernel
theorem i126_95 : xIns xg 126 95 = some (.bipush (-6)) := by decide +kernel
theorem i126_97 : xIns xg 126 97 = some (.if_icmp .ne 8) := by decide +kernel
theorem i126_105 : xIns xg 126 105 = some (.aload_n 0) := by decide +kernel
theorem i126_106 : xIns xg 126 106 = some (.iload_n 2) := by decide +kernel
theorem i126_107 : xIns xg 126 107 = some (.iload 6) := by decide +kernel
theorem i126_109 : xIns xg 126 109 = some (.invokevirtual 381) := by decide +kernel
theorem i126_100 : xIns xg 126 100 = some (.bipush (-6)) := by decide +kernel
theorem i126_102 : xIns xg 126 102 = some (.goto 10) := by decide +kernel
theorem i126_0 : xIns xg 126 0 = some (.iload_n 1) := by decide +kernel
theorem i126_1 : xIns xg 126 1 = some (.invokestatic 266) := by decide +kernel
theorem i126_4 : xIns xg 126 4 = some (.ifCond .eq 22) := by decide +kernel
theorem i126_26 : xIns xg 126 26 = some (.bipush (-2)) := by decide +kernel
theorem i126_28 : xIns xg 126 28 = some (.ireturn) := by decide +kernel
theorem i126_7 : xIns xg 126 7 = some (.iload_n 2) := by decide +kernel
theorem i126_8 : xIns xg 126 8 = some (.invokestatic 266) := by decide +kernel
theorem i126_11 : xIns xg 126 11 = some (.ifCond .eq 15) := by decide +kernel
theorem i126_14 : xIns xg 126 14 = some (.iload_n 3) := by decide +kernel
theorem i126_15 : xIns xg 126 15 = some (.i2l) := by decide +kernel
theorem i126_16 : xIns xg 126 16 = some (.lconst 0) := by decide +kernel
theorem i126_17 : xIns xg 126 17 = some (.ldc2_w 395) := by decide +kernel
theorem c126_395 : xCon xg 126 395 = some (vl (64)) := by decide +kernel
theorem i126_20 : xIns xg 126 20 = some (.invokestatic 177) := by decide +kernel
theorem i126_23 : xIns xg 126 23 = some (.ifCond .ne 6) := by decide +kernel
theorem i126_29 : xIns xg 126 29 = some (.aload_n 0) := by decide +kernel
theorem i126_30 : xIns xg 126 30 = some (.getfield 13) := by decide +kernel
theorem i126_33 : xIns xg 126 33 = some (.iload_n 1) := by decide +kernel
theorem i126_34 : xIns xg 126 34 = some (.iaload) := by decide +kernel
theorem i126_35 : xIns xg 126 35 = some (.ifCond .eq 12) := by decide +kernel
theorem i126_47 : xIns xg 126 47 = some (.bipush (-3)) := by decide +kernel
theorem i126_49 : xIns xg 126 49 = some (.ireturn) := by decide +kernel
theorem i126_38 : xIns xg 126 38 = some (.aload_n 0) := by decide +kernel
theorem i126_39 : xIns xg 126 39 = some (.getfield 13) := by decide +kernel
theorem i126_42 : xIns xg 126 42 = some (.iload_n 2) := by decide +kernel
theorem i126_43 : xIns xg 126 43 = some (.iaload) := by decide +kernel
theorem i126_44 : xIns xg 126 44 = some (.ifCond .ne 6) := by decide +kernel
theorem i126_50 : xIns xg 126 50 = some (.aload_n 0) := by decide +kernel
theorem i126_51 : xIns xg 126 51 = some (.aload_n 0) := by decide +kernel
theorem i126_52 : xIns xg 126 52 = some (.getfield 39) := by decide +kernel
theorem i126_55 : xIns xg 126 55 = some (.invokevirtual 375) := by decide +kernel
theorem i126_58 : xIns xg 126 58 = some (.iconst (-1)) := by decide +kernel
theorem i126_59 : xIns xg 126 59 = some (.istore 4) := by decide +kernel
theorem i126_61 : xIns xg 126 61 = some (.iconst 1) := by decide +kernel
theorem i126_62 : xIns xg 126 62 = some (.istore 5) := by decide +kernel
theorem i126_64 : xIns xg 126 64 = some (.iconst 0) := by decide +kernel
theorem i126_65 : xIns xg 126 65 = some (.istore 6) := by decide +kernel
def d_x8_differ_192 (N : Nat)  (s : St) (x4 : Int) : Option Rs :=
  bd (up s 77 39 (s 77 36)) fun s1 => some (s1, x4)
set_option maxHeartbeats 4000000 in
set_option maxRecDepth 100000 in
theorem c_x8_differ_192 {sc : xS} {d : Nat} {R : Rs} (N : Nat)  (hd : 552 ≤ d)   (s : St) (x4 : Int) : d_x8_differ_192 N  s x4 = some R → vT sc d 126 192 [(0, .ref 77), (4, vi x4)] [] s (fun r => r = qI R) := by
  obtain ⟨d, rfl⟩ : ∃ d', d = d' + 1 := ⟨d - 1, by omega⟩
  unfold d_x8_differ_192
  refine vLan 193 i126_192 rfl rfl ?_
  refine vLan 194 i126_193 rfl rfl ?_
  refine vGet 197 i126_194 f126_326 sh_77 rfl rfl ?_
  refine vPut 200 i126_197 p126_378 sh_77 rfl rfl (fun s1 => ?_)
  refine vLi 202 i126_200 rfl rfl ?_
  exact vRi i126_202 m126 rfl
def d_x8_differ_184 (N : Nat) (k67 : St → Int → Int → Int → Int → Int → Int → Option Rs) (s : St) (x1 : Int) (x2 : Int) (x3 : Int) (x5 : Int) (x6 : Int) (z0 : Int) : Option Rs :=
  bd (x6 + 1) fun v2 => k67 s x1 x2 x3 z0 x5 v2
set_option maxHeartbeats 4000000 in
set_option maxRecDepth 100000 in
theorem c_x8_differ_184 {sc : xS} {d : Nat} {R : Rs} (N : Nat)  (hd : 552 ≤ d) (k67 : St → Int → Int → Int → Int → Int → Int → Option Rs) (hk67 : ∀ (s : St) (x1 : Int) (x2 : Int) (x3 : Int) (x4 : Int) (x5 : Int) (x6 : Int), k67 s x1 x2 x3 x4 x5 x6 = some R → vT sc d 126 67 [(0, .ref 77), (1, vi x1), (2, vi x2), (3, vi x3), (4, vi x4), (5, vi x5), (6, vi x6)] [] s (fun r => r = qI R))  (s : St) (x1 : Int) (x2 : Int) (x3 : Int) (x5 : Int) (x6 : Int) (z0 : Int) : d_x8_differ_184 N k67 s x1 x2 x3 x5 x6 z0 = some R → vT sc d 126 184 [(0, .ref 77), (1, vi x1), (2, vi x2), (3, vi x3), (5, vi x5), (6, vi x6)] [vi z0] s (fun r => r = qI R) := by
  obtain ⟨d, rfl⟩ : ∃ d', d = d' + 1 := ⟨d - 1, by omega⟩
  unfold d_x8_differ_184
  refine vSi0 186 [(4, vi z0), (0, .ref 77), (1, vi x1), (2, vi x2), (3, vi x3), (5, vi x5), (6, vi x6)] i126_184 m126 (by decide) rfl rfl ?_
  refine vInc 189 (fun v2 => [(6, vi v2), (4, vi z0), (0, .ref 77), (1, vi x1), (2, vi x2), (3, vi x3), (5, vi x5)]) i126_186 m126 (by decide) rfl (fun _ => rfl) rfl (fun v2 => ?_)
  refine vGo 67 i126_189 rfl ?_
  exact fun hD => tLc [(0, .ref 77), (1, vi x1), (2, vi x2), (3, vi x3), (4, vi z0), (5, vi x5), (6, vi v2)] (xNdk [0, 1, 2, 3, 4, 5, 6] rfl (by decide)) (xNdk [6, 4, 0, 1, 2, 3, 5] rfl (by decide)) ⟨rfl, rfl, rfl, rfl, rfl, rfl, rfl, trivial⟩ (hk67 s x1 x2 x3 z0 x5 v2 hD)
def d_x8_differ_183 (N : Nat) (k67 : St → Int → Int → Int → Int → Int → Int → Option Rs) (s : St) (x1 : Int) (x2 : Int) (x3 : Int) (x5 : Int) (x6 : Int) : Option Rs :=
  d_x8_differ_184 N k67 s x1 x2 x3 x5 x6 (-1)
set_option maxHeartbeats 4000000 in
set_option maxRecDepth 100000 in
theorem c_x8_differ_183 {sc : xS} {d : Nat} {R : Rs} (N : Nat)  (hd : 552 ≤ d) (k67 : St → Int → Int → Int → Int → Int → Int → Option Rs) (hk67 : ∀ (s : St) (x1 : Int) (x2 : Int) (x3 : Int) (x4 : Int) (x5 : Int) (x6 : Int), k67 s x1 x2 x3 x4 x5 x6 = some R → vT sc d 126 67 [(0, .ref 77), (1, vi x1), (2, vi x2), (3, vi x3), (4, vi x4), (5, vi x5), (6, vi x6)] [] s (fun r => r = qI R))  (s : St) (x1 : Int) (x2 : Int) (x3 : Int) (x5 : Int) (x6 : Int) : d_x8_differ_183 N k67 s x1 x2 x3 x5 x6 = some R → vT sc d 126 183 [(0, .ref 77), (1, vi x1), (2, vi x2), (3, vi x3), (5, vi x5), (6, vi x6)] [] s (fun r => r = qI R) := by
  obtain ⟨d, rfl⟩ : ∃ d', d = d' + 1 := ⟨d - 1, by omega⟩
  unfold d_x8_differ_183
  refine vK 184 i126_183 rfl ?_
  exact fun hD => c_x8_differ_184 N  hd k67 hk67 s x1 x2 x3 x5 x6 (-1) hD
def d_x8_differ_178 (N : Nat) (k67 : St → Int → Int → Int → Int → Int → Int → Option Rs) (s : St) (x1 : Int) (x2 : Int) (x3 : Int) (x5 : Int) (x6 : Int) : Option Rs :=
  d_x8_differ_184 N k67 s x1 x2 x3 x5 x6 x6
set_option maxHeartbeats 4000000 in
set_option maxRecDepth 100000 in
theorem c_x8_differ_178 {sc : xS} {d : Nat} {R : Rs} (N : Nat)  (hd : 552 ≤ d) (k67 : St → Int → Int → Int → Int → Int → Int → Option Rs) (hk67 : ∀ (s : St) (x1 : Int) (x2 : Int) (x3 : Int) (x4 : Int) (x5 : Int) (x6 : Int), k67 s x1 x2 x3 x4 x5 x6 = some R → vT sc d 126 67 [(0, .ref 77), (1, vi x1), (2, vi x2), (3, vi x3), (4, vi x4), (5, vi x5), (6, vi x6)] [] s (fun r => r = qI R))  (s : St) (x1 : Int) (x2 : Int) (x3 : Int) (x5 : Int) (x6 : Int) : d_x8_differ_178 N k67 s x1 x2 x3 x5 x6 = some R → vT sc d 126 178 [(0, .ref 77), (1, vi x1), (2, vi x2), (3, vi x3), (5, vi x5), (6, vi x6)] [] s (fun r => r = qI R) := by
  obtain ⟨d, rfl⟩ : ∃ d', d = d' + 1 := ⟨d - 1, by omega⟩
  unfold d_x8_differ_178
  refine vLi 180 i126_178 rfl rfl ?_
  refine vGo 184 i126_180 rfl ?_
  exact fun hD => c_x8_differ_184 N  hd k67 hk67 s x1 x2 x3 x5 x6 x6 hD
def d_x8_differ_141 (N : Nat) (k67 : St → Int → Int → Int → Int → Int → Int → Option Rs) (s : St) (x1 : Int) (x2 : Int) (x3 : Int) (x6 : Int) (x7 : Int) (x8 : Int) (x10 : Int) (z0 : Int) : Option Rs :=
  (if (w32 x10) = (-6) then d_x8_differ_184 N k67 s x1 x2 x3 z0 x6 (-6) else (if (w32 x7) = (w32 x10) then (if (w32 x7) = 1 then (if (w64 x8) = (w64 (s 77 38)) then d_x8_differ_183 N k67 s x1 x2 x3 z0 x6 else d_x8_differ_178 N k67 s x1 x2 x3 z0 x6) else d_x8_differ_183 N k67 s x1 x2 x3 z0 x6) else d_x8_differ_178 N k67 s x1 x2 x3 z0 x6))
set_option maxHeartbeats 4000000 in
set_option maxRecDepth 100000 in
theorem c_x8_differ_141 {sc : xS} {d : Nat} {R : Rs} (N : Nat)  (hd : 552 ≤ d) (k67 : St → Int → Int → Int → Int → Int → Int → Option Rs) (hk67 : ∀ (s : St) (x1 : Int) (x2 : Int) (x3 : Int) (x4 : Int) (x5 : Int) (x6 : Int), k67 s x1 x2 x3 x4 x5 x6 = some R → vT sc d 126 67 [(0, .ref 77), (1, vi x1), (2, vi x2), (3, vi x3), (4, vi x4), (5, vi x5), (6, vi x6)] [] s (fun r => r = qI R))  (s : St) (x1 : Int) (x2 : Int) (x3 : Int) (x6 : Int) (x7 : Int) (x8 : Int) (x10 : Int) (z0 : Int) : d_x8_differ_141 N k67 s x1 x2 x3 x6 x7 x8 x10 z0 = some R → vT sc d 126 141 [(0, .ref 77), (1, vi x1), (2, vi x2), (3, vi x3), (6, vi x6), (7, vi x7), (8, vl x8), (10, vi x10)] [vi z0] s (fun r => r = qI R) := by
  obtain ⟨d, rfl⟩ : ∃ d', d = d' + 1 := ⟨d - 1, by omega⟩
  unfold d_x8_differ_141
  refine vSi0 143 [(5, vi z0), (0, .ref 77), (1, vi x1), (2, vi x2), (3, vi x3), (6, vi x6), (7, vi x7), (8, vl x8), (10, vi x10)] i126_141 m126 (by decide) rfl rfl ?_
  refine vLi 145 i126_143 rfl rfl ?_
  refine vKb 147 i126_145 (by decide) rfl ?_
  refine vCne 155 150 rfl (show w32 (-6) = (-6) from rfl) i126_147 rfl rfl ?_ ?_
  · refine vLi 157 i126_155 rfl rfl ?_
    refine vLi 159 i126_157 rfl rfl ?_
    refine vCne 178 162 rfl rfl i126_159 rfl rfl ?_ ?_
    · exact fun hD => tLc [(0, .ref 77), (1, vi x1), (2, vi x2), (3, vi x3), (5, vi z0), (6, vi x6)] (xNdk [0, 1, 2, 3, 5, 6] rfl (by decide)) (xNdk [5, 0, 1, 2, 3, 6, 7, 8, 10] rfl (by decide)) ⟨rfl, rfl, rfl, rfl, rfl, rfl, trivial⟩ (c_x8_differ_178 N  hd k67 hk67 s x1 x2 x3 z0 x6 hD)
    · refine vLi 164 i126_162 rfl rfl ?_
      refine vK 165 i126_164 rfl ?_
      refine vCne 183 168 rfl (show w32 1 = 1 from rfl) i126_165 rfl rfl ?_ ?_
      · exact fun hD => tLc [(0, .ref 77), (1, vi x1), (2, vi x2), (3, vi x3), (5, vi z0), (6, vi x6)] (xNdk [0, 1, 2, 3, 5, 6] rfl (by decide)) (xNdk [5, 0, 1, 2, 3, 6, 7, 8, 10] rfl (by decide)) ⟨rfl, rfl, rfl, rfl, rfl, rfl, trivial⟩ (c_x8_differ_183 N  hd k67 hk67 s x1 x2 x3 z0 x6 hD)
      · refine vLl 170 i126_168 rfl rfl ?_
        refine vLan 171 i126_170 rfl rfl ?_
        refine vGetL 174 i126_171 f126_351 sh_77 rfl rfl ?_
        refine vLceq 183 175 178 rfl rfl i126_174 rfl i126_175 rfl rfl ?_ ?_
        · exact fun hD => tLc [(0, .ref 77), (1, vi x1), (2, vi x2), (3, vi x3), (5, vi z0), (6, vi x6)] (xNdk [0, 1, 2, 3, 5, 6] rfl (by decide)) (xNdk [5, 0, 1, 2, 3, 6, 7, 8, 10] rfl (by decide)) ⟨rfl, rfl, rfl, rfl, rfl, rfl, trivial⟩ (c_x8_differ_183 N  hd k67 hk67 s x1 x2 x3 z0 x6 hD)
        · exact fun hD => tLc [(0, .ref 77), (1, vi x1), (2, vi x2), (3, vi x3), (5, vi z0), (6, vi x6)] (xNdk [0, 1, 2, 3, 5, 6] rfl (by decide)) (xNdk [5, 0, 1, 2, 3, 6, 7, 8, 10] rfl (by decide)) ⟨rfl, rfl, rfl, rfl, rfl, rfl, trivial⟩ (c_x8_differ_178 N  hd k67 hk67 s x1 x2 x3 z0 x6 hD)
  · refine vKb 152 i126_150 (by decide) rfl ?_
    refine vGo 184 i126_152 rfl ?_
    exact fun hD => tLc [(0, .ref 77), (1, vi x1), (2, vi x2), (3, vi x3), (5, vi z0), (6, vi x6)] (xNdk [0, 1, 2, 3, 5, 6] rfl (by decide)) (xNdk [5, 0, 1, 2, 3, 6, 7, 8, 10] rfl (by decide)) ⟨rfl, rfl, rfl, rfl, rfl, rfl, trivial⟩ (c_x8_differ_184 N  hd k67 hk67 s x1 x2 x3 z0 x6 (-6) hD)
def d_x8_differ_140 (N : Nat) (k67 : St → Int → Int → Int → Int → Int → Int → Option Rs) (s : St) (x1 : Int) (x2 : Int) (x3 : Int) (x6 : Int) (x7 : Int) (x8 : Int) (x10 : Int) : Option Rs :=
  d_x8_differ_141 N k67 s x1 x2 x3 x6 x7 x8 x10 0
set_option maxHeartbeats 4000000 in
set_option maxRecDepth 100000 in
theorem c_x8_differ_140 {sc : xS} {d : Nat} {R : Rs} (N : Nat)  (hd : 552 ≤ d) (k67 : St → Int → Int → Int → Int → Int → Int → Option Rs) (hk67 : ∀ (s : St) (x1 : Int) (x2 : Int) (x3 : Int) (x4 : Int) (x5 : Int) (x6 : Int), k67 s x1 x2 x3 x4 x5 x6 = some R → vT sc d 126 67 [(0, .ref 77), (1, vi x1), (2, vi x2), (3, vi x3), (4, vi x4), (5, vi x5), (6, vi x6)] [] s (fun r => r = qI R))  (s : St) (x1 : Int) (x2 : Int) (x3 : Int) (x6 : Int) (x7 : Int) (x8 : Int) (x10 : Int) : d_x8_differ_140 N k67 s x1 x2 x3 x6 x7 x8 x10 = some R → vT sc d 126 140 [(0, .ref 77), (1, vi x1), (2, vi x2), (3, vi x3), (6, vi x6), (7, vi x7), (8, vl x8), (10, vi x10)] [] s (fun r => r = qI R) := by
  obtain ⟨d, rfl⟩ : ∃ d', d = d' + 1 := ⟨d - 1, by omega⟩
  unfold d_x8_differ_140
  refine vK 141 i126_140 rfl ?_
  exact fun hD => c_x8_differ_141 N  hd k67 hk67 s x1 x2 x3 x6 x7 x8 x10 0 hD
def d_x8_differ_112 (N : Nat) (k67 : St → Int → Int → Int → Int → Int → Int → Option Rs) (s : St) (x1 : Int) (x2 : Int) (x3 : Int) (x6 : Int) (x7 : Int) (x8 : Int) (z0 : Int) : Option Rs :=
  (if (w32 x7) = 1 then (if (w32 z0) = 1 then (if (w64 x8) = (w64 (s 77 38)) then d_x8_differ_141 N k67 s x1 x2 x3 x6 x7 x8 z0 1 else d_x8_differ_140 N k67 s x1 x2 x3 x6 x7 x8 z0) else d_x8_differ_140 N k67 s x1 x2 x3 x6 x7 x8 z0) else d_x8_differ_140 N k67 s x1 x2 x3 x6 x7 x8 z0)
set_option maxHeartbeats 4000000 in
set_option maxRecDepth 100000 in
theorem c_x8_differ_112 {sc : xS} {d : Nat} {R : Rs} (N : Nat)  (hd : 552 ≤ d) (k67 : St → Int → Int → Int → Int → Int → Int → Option Rs) (hk67 : ∀ (s : St) (x1 : Int) (x2 : Int) (x3 : Int) (x4 : Int) (x5 : Int) (x6 : Int), k67 s x1 x2 x3 x4 x5 x6 = some R → vT sc d 126 67 [(0, .ref 77), (1, vi x1), (2, vi x2), (3, vi x3), (4, vi x4), (5, vi x5), (6, vi x6)] [] s (fun r => r = qI R))  (s : St) (x1 : Int) (x2 : Int) (x3 : Int) (x6 : Int) (x7 : Int) (x8 : Int) (z0 : Int) : d_x8_differ_112 N k67 s x1 x2 x3 x6 x7 x8 z0 = some R → vT sc d 126 112 [(0, .ref 77), (1, vi x1), (2, vi x2), (3, vi x3), (6, vi x6), (7, vi x7), (8, vl x8)] [vi z0] s (fun r => r = qI R) := by
  obtain ⟨d, rfl⟩ : ∃ d', d = d' + 1 := ⟨d - 1, by omega⟩
  unfold d_x8_differ_112
  refine vSi0 114 [(10, vi z0), (0, .ref 77), (1, vi x1), (2, vi x2), (3, vi x3), (6, vi x6), (7, vi x7), (8, vl x8)] i126_112 m126 (by decide) rfl rfl ?_
  refine vLi 116 i126_114 rfl rfl ?_
  refine vK 117 i126_116 rfl ?_
  refine vCne 140 120 rfl (show w32 1 = 1 from rfl) i126_117 rfl rfl ?_ ?_
  · exact fun hD => tLc [(0, .ref 77), (1, vi x1), (2, vi x2), (3, vi x3), (6, vi x6), (7, vi x7), (8, vl x8), (10, vi z0)] (xNdk [0, 1, 2, 3, 6, 7, 8, 10] rfl (by decide)) (xNdk [10, 0, 1, 2, 3, 6, 7, 8] rfl (by decide)) ⟨rfl, rfl, rfl, rfl, rfl, rfl, rfl, rfl, trivial⟩ (c_x8_differ_140 N  hd k67 hk67 s x1 x2 x3 x6 x7 x8 z0 hD)
  · refine vLi 122 i126_120 rfl rfl ?_
    refine vK 123 i126_122 rfl ?_
    refine vCne 140 126 rfl (show w32 1 = 1 from rfl) i126_123 rfl rfl ?_ ?_
    · exact fun hD => tLc [(0, .ref 77), (1, vi x1), (2, vi x2), (3, vi x3), (6, vi x6), (7, vi x7), (8, vl x8), (10, vi z0)] (xNdk [0, 1, 2, 3, 6, 7, 8, 10] rfl (by decide)) (xNdk [10, 0, 1, 2, 3, 6, 7, 8] rfl (by decide)) ⟨rfl, rfl, rfl, rfl, rfl, rfl, rfl, rfl, trivial⟩ (c_x8_differ_140 N  hd k67 hk67 s x1 x2 x3 x6 x7 x8 z0 hD)
    · refine vLl 128 i126_126 rfl rfl ?_
      refine vLan 129 i126_128 rfl rfl ?_
      refine vGetL 132 i126_129 f126_351 sh_77 rfl rfl ?_
      refine vLcne 140 133 136 rfl rfl i126_132 rfl i126_133 rfl rfl ?_ ?_
      · exact fun hD => tLc [(0, .ref 77), (1, vi x1), (2, vi x2), (3, vi x3), (6, vi x6), (7, vi x7), (8, vl x8), (10, vi z0)] (xNdk [0, 1, 2, 3, 6, 7, 8, 10] rfl (by decide)) (xNdk [10, 0, 1, 2, 3, 6, 7, 8] rfl (by decide)) ⟨rfl, rfl, rfl, rfl, rfl, rfl, rfl, rfl, trivial⟩ (c_x8_differ_140 N  hd k67 hk67 s x1 x2 x3 x6 x7 x8 z0 hD)
      · refine vK 137 i126_136 rfl ?_
        refine vGo 141 i126_137 rfl ?_
        exact fun hD => tLc [(0, .ref 77), (1, vi x1), (2, vi x2), (3, vi x3), (6, vi x6), (7, vi x7), (8, vl x8), (10, vi z0)] (xNdk [0, 1, 2, 3, 6, 7, 8, 10] rfl (by decide)) (xNdk [10, 0, 1, 2, 3, 6, 7, 8] rfl (by decide)) ⟨rfl, rfl, rfl, rfl, rfl, rfl, rfl, rfl, trivial⟩ (c_x8_differ_141 N  hd k67 hk67 s x1 x2 x3 x6 x7 x8 z0 1 hD)
def d_x8_differ_67 (N : Nat)  (k67 : St → Int → Int → Int → Int → Int → Int → Option Rs) (s : St) (x1 : Int) (x2 : Int) (x3 : Int) (x4 : Int) (x5 : Int) (x6 : Int) : Option Rs :=
  (if (w32 x6) < (w32 x3) then (if (w32 x5) = 0 then d_x8_differ_192 N  s x4 else bI (d_x8_outcome N  s x1 x6) fun s3 v4 => bd (s3 77 38) fun v5 => (if (w32 v4) = (-6) then d_x8_differ_112 N k67 s3 x1 x2 x3 x6 v4 v5 (-6) else bI (d_x8_outcome N  s3 x2 x6) fun s6 v7 => d_x8_differ_112 N k67 s6 x1 x2 x3 x6 v4 v5 v7)) else d_x8_differ_192 N  s x4)
def d_x8_differ_67L (N : Nat)  : Nat → St → Int → Int → Int → Int → Int → Int → Option Rs
  | 0 => fun _ _ _ _ _ _ _ => none
  | n + 1 => d_x8_differ_67 N  (d_x8_differ_67L N  n)
set_option maxHeartbeats 4000000 in
set_option maxRecDepth 100000 in
theorem c_x8_differ_67 {sc : xS} {d : Nat} {R : Rs} (N : Nat)  (hd : 552 ≤ d)   (k67 : St → Int → Int → Int → Int → Int → Int → Option Rs) (hk67 : ∀ (s : St) (x1 : Int) (x2 : Int) (x3 : Int) (x4 : Int) (x5 : Int) (x6 : Int), k67 s x1 x2 x3 x4 x5 x6 = some R → vT sc d 126 67 [(0, .ref 77), (1, vi x1), (2, vi x2), (3, vi x3), (4, vi x4), (5, vi x5), (6, vi x6)] [] s (fun r => r = qI R)) (s : St) (x1 : Int) (x2 : Int) (x3 : Int) (x4 : Int) (x5 : Int) (x6 : Int) : d_x8_differ_67 N  k67 s x1 x2 x3 x4 x5 x6 = some R → vT sc d 126 67 [(0, .ref 77), (1, vi x1), (2, vi x2), (3, vi x3), (4, vi x4), (5, vi x5), (6, vi x6)] [] s (fun r => r = qI R) := by
  obtain ⟨d, rfl⟩ : ∃ d', d = d' + 1 := ⟨d - 1, by omega⟩
  unfold d_x8_differ_67
  refine vLi 69 i126_67 rfl rfl ?_
  refine vLin 70 i126_69 rfl rfl ?_
  refine vCge 192 73 rfl rfl i126_70 rfl rfl ?_ ?_
  · exact fun hD => tLc [(0, .ref 77), (4, vi x4)] (xNdk [0, 4] rfl (by decide)) (xNdk [0, 1, 2, 3, 4, 5, 6] rfl (by decide)) ⟨rfl, rfl, trivial⟩ (c_x8_differ_192 N  hd  s x4 hD)
  · refine vLi 75 i126_73 rfl rfl ?_
    refine vZeq 192 78 rfl i126_75 rfl rfl ?_ ?_
    · exact fun hD => tLc [(0, .ref 77), (4, vi x4)] (xNdk [0, 4] rfl (by decide)) (xNdk [0, 1, 2, 3, 4, 5, 6] rfl (by decide)) ⟨rfl, rfl, trivial⟩ (c_x8_differ_192 N  hd  s x4 hD)
    · refine vLan 79 i126_78 rfl rfl ?_
      refine vLin 80 i126_79 rfl rfl ?_
      refine vLi 82 i126_80 rfl rfl ?_
      refine vCallI 85 [.ref 77, vi x1, vi x6] [] [(0, .ref 77), (1, vi x1), (2, vi x6)] i126_82 rfl (xlk0 l126_381) (Or.inl rfl) m172 rfl rfl (Nat.le_of_ble_eq_true rfl) (Nat.le_of_ble_eq_true rfl) (Nat.le_of_ble_eq_true rfl) (xh0 sh_77 (by decide)) rfl rfl (fun R1 => c_x8_outcome N   (by omega) s x1 x6) (fun s3 v4 => ?_)
      refine vSi0 87 [(7, vi v4), (0, .ref 77), (1, vi x1), (2, vi x2), (3, vi x3), (4, vi x4), (5, vi x5), (6, vi x6)] i126_85 m126 (by decide) rfl rfl ?_
      refine vLan 88 i126_87 rfl rfl ?_
      refine vGetL 91 i126_88 f126_351 sh_77 rfl rfl ?_
      refine vSl 93 (fun v5 => [(8, vl v5), (7, vi v4), (0, .ref 77), (1, vi x1), (2, vi x2), (3, vi x3), (4, vi x4), (5, vi x5), (6, vi x6)]) i126_91 m126 (by decide) (fun v5 => (rfl : xst2 [(7, vi v4), (0, .ref 77), (1, vi x1), (2, vi x2), (3, vi x3), (4, vi x4), (5, vi x5), (6, vi x6)] 8 (vl v5) = [(8, vl v5), (7, vi v4), (0, .ref 77), (1, vi x1), (2, vi x2), (3, vi x3), (4, vi x4), (5, vi x5), (6, vi x6)])) rfl (fun v5 => ?_)
      refine vLi 95 i126_93 rfl rfl ?_
      refine vKb 97 i126_95 (by decide) rfl ?_
      refine vCne 105 100 rfl (show w32 (-6) = (-6) from rfl) i126_97 rfl rfl ?_ ?_
      · refine vLan 106 i126_105 rfl rfl ?_
        refine vLin 107 i126_106 rfl rfl ?_
        refine vLi 109 i126_107 rfl rfl ?_
        refine vCallI 112 [.ref 77, vi x2, vi x6] [] [(0, .ref 77), (1, vi x2), (2, vi x6)] i126_109 rfl (xlk0 l126_381) (Or.inl rfl) m172 rfl rfl (Nat.le_of_ble_eq_true rfl) (Nat.le_of_ble_eq_true rfl) (Nat.le_of_ble_eq_true rfl) (xh0 sh_77 (by decide)) rfl rfl (fun R1 => c_x8_outcome N   (by omega) s3 x2 x6) (fun s6 v7 => ?_)
        exact fun hD => tLc [(0, .ref 77), (1, vi x1), (2, vi x2), (3, vi x3), (6, vi x6), (7, vi v4), (8, vl v5)] (xNdk [0, 1, 2, 3, 6, 7, 8] rfl (by decide)) (xNdk [8, 7, 0, 1, 2, 3, 4, 5, 6] rfl (by decide)) ⟨rfl, rfl, rfl, rfl, rfl, rfl, rfl, trivial⟩ (c_x8_differ_112 N  hd k67 hk67 s6 x1 x2 x3 x6 v4 v5 v7 hD)
      · refine vKb 102 i126_100 (by decide) rfl ?_
        refine vGo 112 i126_102 rfl ?_
        exact fun hD => tLc [(0, .ref 77), (1, vi x1), (2, vi x2), (3, vi x3), (6, vi x6), (7, vi v4), (8, vl v5)] (xNdk [0, 1, 2, 3, 6, 7, 8] rfl (by decide)) (xNdk [8, 7, 0, 1, 2, 3, 4, 5, 6] rfl (by decide)) ⟨rfl, rfl, rfl, rfl, rfl, rfl, rfl, trivial⟩ (c_x8_differ_112 N  hd k67 hk67 s3 x1 x2 x3 x6 v4 v5 (-6) hD)
theorem c_x8_differ_67L {sc : xS} {d : Nat} {R : Rs} (N : Nat)  (hd : 552 ≤ d)   : ∀ (n : Nat) (s : St) (x1 : Int) (x2 : Int) (x3 : Int) (x4 : Int) (x5 : Int) (x6 : Int), d_x8_differ_67L N  n s x1 x2 x3 x4 x5 x6 = some R → vT sc d 126 67 [(0, .ref 77), (1, vi x1), (2, vi x2), (3, vi x3), (4, vi x4), (5, vi x5), (6, vi x6)] [] s (fun r => r = qI R) := by
  intro n
  induction n with
  | zero => intro s x1 x2 x3 x4 x5 x6 hD; cases hD
  | succ n ih => intro s x1 x2 x3 x4 x5 x6 hD; exact c_x8_differ_67 N  hd  _ ih s x1 x2 x3 x4 x5 x6 hD
def d_x8_differ (N : Nat)  (s : St) (a0 : Int) (a1 : Int) (a2 : Int) : Option Rs :=
  bI (d_x8_isStream N  s a0) fun s8 v9 => (if (w32 v9) = 0 then some (s8, (-2)) else bI (d_x8_isStream N  s8 a1) fun s10 v11 => (if (w32 v11) = 0 then some (s10, (-2)) else bI (d_x8_in N  s10 (w32 a2) 0 64) fun s12 v13 => (if (w32 v13) = 0 then some (s12, (-2)) else if 0 ≤ (w32 a0) ∧ (w32 a0) < ((8 : Nat) : Int) then (if (w32 (s12 78 (Int.toNat (w32 a0)))) = 0 then some (s12, (-3)) else if 0 ≤ (w32 a1) ∧ (w32 a1) < ((8 : Nat) : Int) then (if (w32 (s12 78 (Int.toNat (w32 a1)))) = 0 then some (s12, (-3)) else bV (d_x8_begins N  s12 (s12 77 9)) fun s14 => d_x8_differ_67L N  N s14 a0 a1 a2 (-1) 1 0) else none) else none)))
set_option maxHeartbeats 4000000 in
set_option maxRecDepth 100000 in
theorem c_x8_differ {sc : xS} {d : Nat} {R : Rs} (N : Nat)  (hd : 552 ≤ d)   (s : St) (a0 : Int) (a1 : Int) (a2 : Int) : d_x8_differ N  s a0 a1 a2 = some R → vT sc d 126 0 [(0, .ref 77), (1, vi a0), (2, vi a1), (3, vi a2)] [] s (fun r => r = qI R) := by
  obtain ⟨d, rfl⟩ : ∃ d', d = d' + 1 := ⟨d - 1, by omega⟩
  unfold d_x8_differ
  refine vLin 1 i126_0 rfl rfl ?_
  refine vCallI 4 [vi a0] [] [(0, vi a0)] i126_1 rfl (xlk1 l126_266) (Or.inr (Or.inl rfl)) m153 rfl rfl (Nat.le_of_ble_eq_true rfl) (Nat.le_of_ble_eq_true rfl) (Nat.le_of_ble_eq_true rfl) rfl rfl rfl (fun R1 => c_x8_isStream N   (by omega) s a0) (fun s8 v9 => ?_)
  refine vZeq 26 7 rfl i126_4 rfl rfl ?_ ?_
  · refine vKb 28 i126_26 (by decide) rfl ?_
    exact vRi i126_28 m126 rfl
  · refine vLin 8 i126_7 rfl rfl ?_
    refine vCallI 11 [vi a1] [] [(0, vi a1)] i126_8 rfl (xlk1 l126_266) (Or.inr (Or.inl rfl)) m153 rfl rfl (Nat.le_of_ble_eq_true rfl) (Nat.le_of_ble_eq_true rfl) (Nat.le_of_ble_eq_true rfl) rfl rfl rfl (fun R1 => c_x8_isStream N   (by omega) s8 a1) (fun s10 v11 => ?_)
    refine vZeq 26 14 rfl i126_11 rfl rfl ?_ ?_
    · refine vKb 28 i126_26 (by decide) rfl ?_
      exact vRi i126_28 m126 rfl
    · refine vLin 15 i126_14 rfl rfl ?_
      refine vI2l 16 i126_15 rfl ?_
      refine vKl 17 0 i126_16 (by decide) rfl ?_
      refine vKd 20 i126_17 c126_395 rfl ?_
      refine vCallI 23 [vl (w32 a2), vl 0, vl 64] [] [(0, vl (w32 a2)), (2, vl 0), (4, vl 64)] i126_20 rfl (xlk1 l126_177) (Or.inr (Or.inl rfl)) m142 rfl rfl (Nat.le_of_ble_eq_true rfl) (Nat.le_of_ble_eq_true rfl) (Nat.le_of_ble_eq_true rfl) rfl rfl rfl (fun R1 => c_x8_in N   (by omega) s10 (w32 a2) 0 64) (fun s12 v13 => ?_)
      refine vZne 29 26 rfl i126_23 rfl rfl ?_ ?_
      · refine vLan 30 i126_29 rfl rfl ?_
        refine vGetC 33 i126_30 f126_13 sh_77 rfl rfl ?_
        refine vLin 34 i126_33 rfl rfl ?_
        refine vIal 35 rfl i126_34 sh_78 rfl ?_
        refine vZeq 47 38 rfl i126_35 rfl rfl ?_ ?_
        · refine vKb 49 i126_47 (by decide) rfl ?_
          exact vRi i126_49 m126 rfl
        · refine vLan 39 i126_38 rfl rfl ?_
          refine vGetC 42 i126_39 f126_13 sh_77 rfl rfl ?_
          refine vLin 43 i126_42 rfl rfl ?_
          refine vIal 44 rfl i126_43 sh_78 rfl ?_
          refine vZne 50 47 rfl i126_44 rfl rfl ?_ ?_
          · refine vLan 51 i126_50 rfl rfl ?_
            refine vLan 52 i126_51 rfl rfl ?_
            refine vGet 55 i126_52 f126_39 sh_77 rfl rfl ?_
            refine vCallV 58 [.ref 77, vi (s12 77 9)] [] [(0, .ref 77), (1, vi (s12 77 9))] i126_55 rfl (xlk0 l126_375) (Or.inl rfl) m121 rfl rfl (Nat.le_of_ble_eq_true rfl) (Nat.le_of_ble_eq_true rfl) (Nat.le_of_ble_eq_true rfl) (xh0 sh_77 (by decide)) rfl rfl (fun R1 => c_x8_begins N   (by omega) s12 (s12 77 9)) (fun s14 => ?_)
            refine vK 59 i126_58 rfl ?_
            refine vSi0 61 [(4, vi (-1)), (0, .ref 77), (1, vi a0), (2, vi a1), (3, vi a2)] i126_59 m126 (by decide) rfl rfl ?_
            refine vK 62 i126_61 rfl ?_
            refine vSi0 64 [(5, vi 1), (4, vi (-1)), (0, .ref 77), (1, vi a0), (2, vi a1), (3, vi a2)] i126_62 m126 (by decide) rfl rfl ?_
            refine vK 65 i126_64 rfl ?_
            refine vSi0 67 [(6, vi 0), (5, vi 1), (4, vi (-1)), (0, .ref 77), (1, vi a0), (2, vi a1), (3, vi a2)] i126_65 m126 (by decide) rfl rfl ?_
            exact fun hD => tLc [(0, .ref 77), (1, vi a0), (2, vi a1), (3, vi a2), (4, vi (-1)), (5, vi 1), (6, vi 0)] (xNdk [0, 1, 2, 3, 4, 5, 6] rfl (by decide)) (xNdk [6, 5, 4, 0, 1, 2, 3] rfl (by decide)) ⟨rfl, rfl, rfl, rfl, rfl, rfl, rfl, trivial⟩ (c_x8_differ_67L N  hd  N s14 a0 a1 a2 (-1) 1 0 hD)
          · refine vKb 49 i126_47 (by decide) rfl ?_
            exact vRi i126_49 m126 rfl
      · refine vKb 28 i126_26 (by decide) rfl ?_
        exact vRi i126_28 m126 rfl
