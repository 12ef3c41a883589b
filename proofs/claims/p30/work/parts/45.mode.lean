theorem f181_13 : xFld xg 181 13 = some (7, 1) := by decide +kernel
theorem f181_39 : xFld xg 181 39 = some (7, 9) := by decide +kernel
theorem f181_326 : xFld xg 181 326 = some (7, 36) := by decide +kernel
theorem f181_351 : xFld xg 181 351 = some (7, 38) := by decide +kernel
theorem i181_110 : xIns xg 181 110 = some (.aload_n 0) := by decide +kernel
theorem i181_111 : xIns xg 181 111 = some (.aload_n 0) := by decide +kernel
theorem i181_112 : xIns xg 181 112 = some (.getfield 326) := by decide +kernel
theorem i181_115 : xIns xg 181 115 = some (.putfield 378) := by decide +kernel
theorem p181_378 : xPut xg 181 378 = some (7, 39, .int) := by decide +kernel
theorem i181_118 : xIns xg 181 118 = some (.iload 5) := by decide +kernel
theorem i181_120 : xIns xg 181 120 = some (.bipush (-6)) := by decide +kernel
theorem i181_122 : xIns xg 181 122 = some (.if_icmp .ne 8) := by decide +kernel
theorem i181_130 : xIns xg 181 130 = some (.iload_n 2) := by decide +kernel
theorem i181_131 : xIns xg 181 131 = some (.ireturn) := by decide +kernel
theorem m181 : (xMet xg 181).2.2 = (7, (some .int)) := by decide +kernel
theorem i181_125 : xIns xg 181 125 = some (.bipush (-6)) := by decide +kernel
theorem i181_127 : xIns xg 181 127 = some (.goto 4) := by decide +kernel
theorem i181_97 : xIns xg 181 97 = some (.iadd) := by decide +kernel
theorem i181_98 : xIns xg 181 98 = some (.istore_n 2) := by decide +kernel
theorem i181_99 : xIns xg 181 99 = some (.aload_n 0) := by decide +kernel
theorem i181_100 : xIns xg 181 100 = some (.getfield 351) := by decide +kernel
theorem i181_103 : xIns xg 181 103 = some (.lstore_n 3) := by decide +kernel
theorem i181_104 : xIns xg 181 104 = some (.iinc 6 1) := by decide +kernel
theorem i181_107 : xIns xg 181 107 = some (.goto (-67)) := by decide +kernel
theorem i181_85 : xIns xg 181 85 = some (.iload_n 2) := by decide +kernel
theorem i181_86 : xIns xg 181 86 = some (.iload 5) := by decide +kernel
theorem i181_88 : xIns xg 181 88 = some (.iconst 1) := by decide +kernel
theorem i181_89 : xIns xg 181 89 = some (.if_icmp .ne 7) := by decide +kernel
theorem i181_96 : xIns xg 181 96 = some (.iconst 0) := by decide +kernel
theorem i181_92 : xIns xg 181 92 = some (.iconst 1) := by decide +kernel
theorem i181_93 : xIns xg 181 93 = some (.goto 4) := by decide +kernel
theorem i181_40 : xIns xg 181 40 = some (.iload 6) := by decide +kernel
theorem i181_42 : xIns xg 181 42 = some (.bipush 64) := by decide +kernel
theorem i181_44 : xIns xg 181 44 = some (.if_icmp .ge 66) := by decide +kernel
theorem i181_47 : xIns xg 181 47 = some (.iload 5) := by decide +kernel
theorem i181_49 : xIns xg 181 49 = some (.iconst 1) := by decide +kernel
theorem i181_50 : xIns xg 181 50 = some (.if_icmp .ne 60) := by decide +kernel
theorem i181_53 : xIns xg 181 53 = some (.aload_n 0) := by decide +kernel
theorem i181_54 : xIns xg 181 54 = some (.iload_n 1) := by decide +kernel
theorem i181_55 : xIns xg 181 55 = some (.iload 6) := by decide +kernel
theorem i181_57 : xIns xg 181 57 = some (.invokevirtual 381) := by decide +kernel
theorem i181_60 : xIns xg 181 60 = some (.istore 5) := by decide +kernel
theorem i181_62 : xIns xg 181 62 = some (.iload 5) := by decide +kernel
theorem i181_64 : xIns xg 181 64 = some (.iconst 1) := by decide +kernel
theorem i181_65 : xIns xg 181 65 = some (.if_icmp .ne 20) := by decide +kernel
theorem i181_68 : xIns xg 181 68 = some (.iload 6) := by decide +kernel
theorem i181_70 : xIns xg 181 70 = some (.ifCond .le 15) := by decide +kernel
theorem i181_73 : xIns xg 181 73 = some (.aload_n 0) := by decide +kernel
theorem i181_74 : xIns xg 181 74 = some (.getfield 351) := by decide +kernel
theorem i181_77 : xIns xg 181 77 = some (.lload_n 3) := by decide +kernel
theorem i181_78 : xIns xg 181 78 = some (.lcmp) := by decide +kernel
theorem i181_79 : xIns xg 181 79 = some (.ifCond .gt 6) := by decide +kernel
theorem i181_82 : xIns xg 181 82 = some (.iconst 0) := by decide +kernel
theorem i181_83 : xIns xg 181 83 = some (.istore 5) := by decide +kernel
theorem i181_0 : xIns xg 181 0 = some (.iload_n 1) := by decide +kernel
theorem i181_1 : xIns xg 181 1 = some (.invokestatic 266) := by decide +kernel
theorem i181_4 : xIns xg 181 4 = some (.ifCond .ne 6) := by decide +kernel
theorem i181_10 : xIns xg 181 10 = some (.aload_n 0) := by decide +kernel
theorem i181_11 : xIns xg 181 11 = some (.getfield 13) := by decide +kernel
theorem i181_14 : xIns xg 181 14 = some (.iload_n 1) := by decide +kernel
theorem i181_15 : xIns xg 181 15 = some (.iaload) := by decide +kernel
theorem i181_16 : xIns xg 181 16 = some (.ifCond .ne 6) := by decide +kernel
theorem i181_22 : xIns xg 181 22 = some (.aload_n 0) := by decide +kernel
theorem i181_23 : xIns xg 181 23 = some (.aload_n 0) := by decide +kernel
theorem i181_24 : xIns xg 181 24 = some (.getfield 39) := by decide +kernel
theorem i181_27 : xIns xg 181 27 = some (.invokevirtual 375) := by decide +kernel
theorem i181_30 : xIns xg 181 30 = some (.iconst 0) := by decide +kernel
theorem i181_31 : xIns xg 181 31 = some (.istore_n 2) := by decide +kernel
theorem i181_32 : xIns xg 181 32 = some (.lconst 0) := by decide +kernel
theorem i181_33 : xIns xg 181 33 = some (.lstore_n 3) := by decide +kernel
theorem i181_34 : xIns xg 181 34 = some (.iconst 1) := by decide +kernel
theorem i181_35 : xIns xg 181 35 = some (.istore 5) := by decide +kernel
theorem i181_37 : xIns xg 181 37 = some (.iconst 0) := by decide +kernel
theorem i181_38 : xIns xg 181 38 = some (.istore 6) := by decide +kernel
theorem i181_19 : xIns xg 181 19 = some (.bipush (-3)) := by decide +kernel
theorem i181_21 : xIns xg 181 21 = some (.ireturn) := by decide +kernel
theorem i181_7 : xIns xg 181 7 = some (.bipush (-2)) := by decide +kernel
theorem i181_9 : xIns xg 181 9 = some (.ireturn) := by decide +kernel
def d_x8_rises_110 (N : Nat)  (s : St) (x2 : Int) (x5 : Int) : Option Rs :=
  bd (up s 77 39 (s 77 36)) fun s1 => (if (w32 x5) = (-6) then some (s1, (-6)) else some (s1, x2))
set_option maxHeartbeats 4000000 in
set_option maxRecDepth 100000 in
theorem c_x8_rises_110 {sc : xS} {d : Nat} {R : Rs} (N : Nat)  (hd : 552 ≤ d)   (s : St) (x2 : Int) (x5 : Int) : d_x8_rises_110 N  s x2 x5 = some R → vT sc d 181 110 [(0, .ref 77), (2, vi x2), (5, vi x5)] [] s (fun r => r = qI R) := by
  obtain ⟨d, rfl⟩ : ∃ d', d = d' + 1 := ⟨d - 1, by omega⟩
  unfold d_x8_rises_110
  refine vLan 111 i181_110 rfl rfl ?_
  refine vLan 112 i181_111 rfl rfl ?_
  refine vGet 115 i181_112 f181_326 sh_77 rfl rfl ?_
  refine vPut 118 i181_115 p181_378 sh_77 rfl rfl (fun s1 => ?_)
  refine vLi 120 i181_118 rfl rfl ?_
  refine vKb 122 i181_120 (by decide) rfl ?_
  refine vCne 130 125 rfl (show w32 (-6) = (-6) from rfl) i181_122 rfl rfl ?_ ?_
  · refine vLin 131 i181_130 rfl rfl ?_
    exact vRi i181_131 m181 rfl
  · refine vKb 127 i181_125 (by decide) rfl ?_
    refine vGo 131 i181_127 rfl ?_
    exact vRi i181_131 m181 rfl
def d_x8_rises_97 (N : Nat) (k40 : St → Int → Int → Int → Int → Int → Option Rs) (s : St) (x1 : Int) (x5 : Int) (x6 : Int) (z0 : Int) (z1 : Int) : Option Rs :=
  bd (z1 + z0) fun v2 => bd (s 77 38) fun v3 => bd (x6 + 1) fun v4 => k40 s x1 v2 v3 x5 v4
set_option maxHeartbeats 4000000 in
set_option maxRecDepth 100000 in
theorem c_x8_rises_97 {sc : xS} {d : Nat} {R : Rs} (N : Nat)  (hd : 552 ≤ d) (k40 : St → Int → Int → Int → Int → Int → Option Rs) (hk40 : ∀ (s : St) (x1 : Int) (x2 : Int) (x3 : Int) (x5 : Int) (x6 : Int), k40 s x1 x2 x3 x5 x6 = some R → vT sc d 181 40 [(0, .ref 77), (1, vi x1), (2, vi x2), (3, vl x3), (5, vi x5), (6, vi x6)] [] s (fun r => r = qI R))  (s : St) (x1 : Int) (x5 : Int) (x6 : Int) (z0 : Int) (z1 : Int) : d_x8_rises_97 N k40 s x1 x5 x6 z0 z1 = some R → vT sc d 181 97 [(0, .ref 77), (1, vi x1), (5, vi x5), (6, vi x6)] [vi z0, vi z1] s (fun r => r = qI R) := by
  obtain ⟨d, rfl⟩ : ∃ d', d = d' + 1 := ⟨d - 1, by omega⟩
  unfold d_x8_rises_97
  refine vIadd 98 i181_97 rfl ?_
  refine vSin 99 (fun v2 => [(2, vi v2), (0, .ref 77), (1, vi x1), (5, vi x5), (6, vi x6)]) i181_98 m181 (by decide) (fun v2 => (rfl : xst1 [(0, .ref 77), (1, vi x1), (5, vi x5), (6, vi x6)] 2 (vi v2) = [(2, vi v2), (0, .ref 77), (1, vi x1), (5, vi x5), (6, vi x6)])) rfl (fun v2 => ?_)
  refine vLan 100 i181_99 rfl rfl ?_
  refine vGetL 103 i181_100 f181_351 sh_77 rfl rfl ?_
  refine vSln 104 (fun v3 => [(3, vl v3), (2, vi v2), (0, .ref 77), (1, vi x1), (5, vi x5), (6, vi x6)]) i181_103 m181 (by decide) (fun v3 => (rfl : xst2 [(2, vi v2), (0, .ref 77), (1, vi x1), (5, vi x5), (6, vi x6)] 3 (vl v3) = [(3, vl v3), (2, vi v2), (0, .ref 77), (1, vi x1), (5, vi x5), (6, vi x6)])) rfl (fun v3 => ?_)
  refine vInc 107 (fun v4 => [(6, vi v4), (3, vl v3), (2, vi v2), (0, .ref 77), (1, vi x1), (5, vi x5)]) i181_104 m181 (by decide) rfl (fun _ => rfl) rfl (fun v4 => ?_)
  refine vGo 40 i181_107 rfl ?_
  exact fun hD => tLc [(0, .ref 77), (1, vi x1), (2, vi v2), (3, vl v3), (5, vi x5), (6, vi v4)] (xNdk [0, 1, 2, 3, 5, 6] rfl (by decide)) (xNdk [6, 3, 2, 0, 1, 5] rfl (by decide)) ⟨rfl, rfl, rfl, rfl, rfl, rfl, trivial⟩ (hk40 s x1 v2 v3 x5 v4 hD)
def d_x8_rises_85 (N : Nat) (k40 : St → Int → Int → Int → Int → Int → Option Rs) (s : St) (x1 : Int) (x2 : Int) (x5 : Int) (x6 : Int) : Option Rs :=
  (if (w32 x5) = 1 then d_x8_rises_97 N k40 s x1 x5 x6 1 x2 else d_x8_rises_97 N k40 s x1 x5 x6 0 x2)
set_option maxHeartbeats 4000000 in
set_option maxRecDepth 100000 in
theorem c_x8_rises_85 {sc : xS} {d : Nat} {R : Rs} (N : Nat)  (hd : 552 ≤ d) (k40 : St → Int → Int → Int → Int → Int → Option Rs) (hk40 : ∀ (s : St) (x1 : Int) (x2 : Int) (x3 : Int) (x5 : Int) (x6 : Int), k40 s x1 x2 x3 x5 x6 = some R → vT sc d 181 40 [(0, .ref 77), (1, vi x1), (2, vi x2), (3, vl x3), (5, vi x5), (6, vi x6)] [] s (fun r => r = qI R))  (s : St) (x1 : Int) (x2 : Int) (x5 : Int) (x6 : Int) : d_x8_rises_85 N k40 s x1 x2 x5 x6 = some R → vT sc d 181 85 [(0, .ref 77), (1, vi x1), (2, vi x2), (5, vi x5), (6, vi x6)] [] s (fun r => r = qI R) := by
  obtain ⟨d, rfl⟩ : ∃ d', d = d' + 1 := ⟨d - 1, by omega⟩
  unfold d_x8_rises_85
  refine vLin 86 i181_85 rfl rfl ?_
  refine vLi 88 i181_86 rfl rfl ?_
  refine vK 89 i181_88 rfl ?_
  refine vCne 96 92 rfl (show w32 1 = 1 from rfl) i181_89 rfl rfl ?_ ?_
  · refine vK 97 i181_96 rfl ?_
    exact fun hD => tLc [(0, .ref 77), (1, vi x1), (5, vi x5), (6, vi x6)] (xNdk [0, 1, 5, 6] rfl (by decide)) (xNdk [0, 1, 2, 5, 6] rfl (by decide)) ⟨rfl, rfl, rfl, rfl, trivial⟩ (c_x8_rises_97 N  hd k40 hk40 s x1 x5 x6 0 x2 hD)
  · refine vK 93 i181_92 rfl ?_
    refine vGo 97 i181_93 rfl ?_
    exact fun hD => tLc [(0, .ref 77), (1, vi x1), (5, vi x5), (6, vi x6)] (xNdk [0, 1, 5, 6] rfl (by decide)) (xNdk [0, 1, 2, 5, 6] rfl (by decide)) ⟨rfl, rfl, rfl, rfl, trivial⟩ (c_x8_rises_97 N  hd k40 hk40 s x1 x5 x6 1 x2 hD)
def d_x8_rises_40 (N : Nat)  (k40 : St → Int → Int → Int → Int → Int → Option Rs) (s : St) (x1 : Int) (x2 : Int) (x3 : Int) (x5 : Int) (x6 : Int) : Option Rs :=
  (if (w32 x6) < 64 then (if (w32 x5) = 1 then bI (d_x8_outcome N  s x1 x6) fun s5 v6 => (if (w32 v6) = 1 then (if 0 < (w32 x6) then (if (w64 x3) < (w64 (s5 77 38)) then d_x8_rises_85 N k40 s5 x1 x2 v6 x6 else d_x8_rises_85 N k40 s5 x1 x2 0 x6) else d_x8_rises_85 N k40 s5 x1 x2 v6 x6) else d_x8_rises_85 N k40 s5 x1 x2 v6 x6) else d_x8_rises_110 N  s x2 x5) else d_x8_rises_110 N  s x2 x5)
def d_x8_rises_40L (N : Nat)  : Nat → St → Int → Int → Int → Int → Int → Option Rs
  | 0 => fun _ _ _ _ _ _ => none
  | n + 1 => d_x8_rises_40 N  (d_x8_rises_40L N  n)
set_option maxHeartbeats 4000000 in
set_option maxRecDepth 100000 in
theorem c_x8_rises_40 {sc : xS} {d : Nat} {R : Rs} (N : Nat)  (hd : 552 ≤ d)   (k40 : St → Int → Int → Int → Int → Int → Option Rs) (hk40 : ∀ (s : St) (x1 : Int) (x2 : Int) (x3 : Int) (x5 : Int) (x6 : Int), k40 s x1 x2 x3 x5 x6 = some R → vT sc d 181 40 [(0, .ref 77), (1, vi x1), (2, vi x2), (3, vl x3), (5, vi x5), (6, vi x6)] [] s (fun r => r = qI R)) (s : St) (x1 : Int) (x2 : Int) (x3 : Int) (x5 : Int) (x6 : Int) : d_x8_rises_40 N  k40 s x1 x2 x3 x5 x6 = some R → vT sc d 181 40 [(0, .ref 77), (1, vi x1), (2, vi x2), (3, vl x3), (5, vi x5), (6, vi x6)] [] s (fun r => r = qI R) := by
  obtain ⟨d, rfl⟩ : ∃ d', d = d' + 1 := ⟨d - 1, by omega⟩
  unfold d_x8_rises_40
  refine vLi 42 i181_40 rfl rfl ?_
  refine vKb 44 i181_42 (by decide) rfl ?_
  refine vCge 110 47 rfl (show w32 64 = 64 from rfl) i181_44 rfl rfl ?_ ?_
  · exact fun hD => tLc [(0, .ref 77), (2, vi x2), (5, vi x5)] (xNdk [0, 2, 5] rfl (by decide)) (xNdk [0, 1, 2, 3, 5, 6] rfl (by decide)) ⟨rfl, rfl, rfl, trivial⟩ (c_x8_rises_110 N  hd  s x2 x5 hD)
  · refine vLi 49 i181_47 rfl rfl ?_
    refine vK 50 i181_49 rfl ?_
    refine vCne 110 53 rfl (show w32 1 = 1 from rfl) i181_50 rfl rfl ?_ ?_
    · exact fun hD => tLc [(0, .ref 77), (2, vi x2), (5, vi x5)] (xNdk [0, 2, 5] rfl (by decide)) (xNdk [0, 1, 2, 3, 5, 6] rfl (by decide)) ⟨rfl, rfl, rfl, trivial⟩ (c_x8_rises_110 N  hd  s x2 x5 hD)
    · refine vLan 54 i181_53 rfl rfl ?_
      refine vLin 55 i181_54 rfl rfl ?_
      refine vLi 57 i181_55 rfl rfl ?_
      refine vCallI 60 [.ref 77, vi x1, vi x6] [] [(0, .ref 77), (1, vi x1), (2, vi x6)] i181_57 rfl (xlk0 l181_381) (Or.inl rfl) m172 rfl rfl (Nat.le_of_ble_eq_true rfl) (Nat.le_of_ble_eq_true rfl) (Nat.le_of_ble_eq_true rfl) (xh0 sh_77 (by decide)) rfl rfl (fun R1 => c_x8_outcome N   (by omega) s x1 x6) (fun s5 v6 => ?_)
      refine vSi0 62 [(5, vi v6), (0, .ref 77), (1, vi x1), (2, vi x2), (3, vl x3), (6, vi x6)] i181_60 m181 (by decide) rfl rfl ?_
      refine vLi 64 i181_62 rfl rfl ?_
      refine vK 65 i181_64 rfl ?_
      refine vCne 85 68 rfl (show w32 1 = 1 from rfl) i181_65 rfl rfl ?_ ?_
      · exact fun hD => tLc [(0, .ref 77), (1, vi x1), (2, vi x2), (5, vi v6), (6, vi x6)] (xNdk [0, 1, 2, 5, 6] rfl (by decide)) (xNdk [5, 0, 1, 2, 3, 6] rfl (by decide)) ⟨rfl, rfl, rfl, rfl, rfl, trivial⟩ (c_x8_rises_85 N  hd k40 hk40 s5 x1 x2 v6 x6 hD)
      · refine vLi 70 i181_68 rfl rfl ?_
        refine vZle 85 73 rfl i181_70 rfl rfl ?_ ?_
        · exact fun hD => tLc [(0, .ref 77), (1, vi x1), (2, vi x2), (5, vi v6), (6, vi x6)] (xNdk [0, 1, 2, 5, 6] rfl (by decide)) (xNdk [5, 0, 1, 2, 3, 6] rfl (by decide)) ⟨rfl, rfl, rfl, rfl, rfl, trivial⟩ (c_x8_rises_85 N  hd k40 hk40 s5 x1 x2 v6 x6 hD)
        · refine vLan 74 i181_73 rfl rfl ?_
          refine vGetL 77 i181_74 f181_351 sh_77 rfl rfl ?_
          refine vLln 78 i181_77 rfl rfl ?_
          refine vLcgt 85 79 82 rfl rfl i181_78 rfl i181_79 rfl rfl ?_ ?_
          · exact fun hD => tLc [(0, .ref 77), (1, vi x1), (2, vi x2), (5, vi v6), (6, vi x6)] (xNdk [0, 1, 2, 5, 6] rfl (by decide)) (xNdk [5, 0, 1, 2, 3, 6] rfl (by decide)) ⟨rfl, rfl, rfl, rfl, rfl, trivial⟩ (c_x8_rises_85 N  hd k40 hk40 s5 x1 x2 v6 x6 hD)
          · refine vK 83 i181_82 rfl ?_
            refine vSi0 85 [(5, vi 0), (0, .ref 77), (1, vi x1), (2, vi x2), (3, vl x3), (6, vi x6)] i181_83 m181 (by decide) rfl rfl ?_
            exact fun hD => tLc [(0, .ref 77), (1, vi x1), (2, vi x2), (5, vi 0), (6, vi x6)] (xNdk [0, 1, 2, 5, 6] rfl (by decide)) (xNdk [5, 0, 1, 2, 3, 6] rfl (by decide)) ⟨rfl, rfl, rfl, rfl, rfl, trivial⟩ (c_x8_rises_85 N  hd k40 hk40 s5 x1 x2 0 x6 hD)
theorem c_x8_rises_40L {sc : xS} {d : Nat} {R : Rs} (N : Nat)  (hd : 552 ≤ d)   : ∀ (n : Nat) (s : St) (x1 : Int) (x2 : Int) (x3 : Int) (x5 : Int) (x6 : Int), d_x8_rises_40L N  n s x1 x2 x3 x5 x6 = some R → vT sc d 181 40 [(0, .ref 77), (1, vi x1), (2, vi x2), (3, vl x3), (5, vi x5), (6, vi x6)] [] s (fun r => r = qI R) := by
  intro n
  induction n with
  | zero => intro s x1 x2 x3 x5 x6 hD; cases hD
  | succ n ih => intro s x1 x2 x3 x5 x6 hD; exact c_x8_rises_40 N  hd  _ ih s x1 x2 x3 x5 x6 hD
def d_x8_rises (N : Nat)  (s : St) (a0 : Int) : Option Rs :=
  bI (d_x8_isStream N  s a0) fun s7 v8 => (if (w32 v8) = 0 then some (s7, (-2)) else if 0 ≤ (w32 a0) ∧ (w32 a0) < ((8 : Nat) : Int) then (if (w32 (s7 78 (Int.toNat (w32 a0)))) = 0 then some (s7, (-3)) else bV (d_x8_begins N  s7 (s7 77 9)) fun s9 => d_x8_rises_40L N  N s9 a0 0 0 1 0) else none)
set_option maxHeartbeats 4000000 in
set_option maxRecDepth 100000 in
theorem c_x8_rises {sc : xS} {d : Nat} {R : Rs} (N : Nat)  (hd : 552 ≤ d)   (s : St) (a0 : Int) : d_x8_rises N  s a0 = some R → vT sc d 181 0 [(0, .ref 77), (1, vi a0)] [] s (fun r => r = qI R) := by
  obtain ⟨d, rfl⟩ : ∃ d', d = d' + 1 := ⟨d - 1, by omega⟩
  unfold d_x8_rises
  refine vLin 1 i181_0 rfl rfl ?_
  refine vCallI 4 [vi a0] [] [(0, vi a0)] i181_1 rfl (xlk1 l181_266) (Or.inr (Or.inl rfl)) m153 rfl rfl (Nat.le_of_ble_eq_true rfl) (Nat.le_of_ble_eq_true rfl) (Nat.le_of_ble_eq_true rfl) rfl rfl rfl (fun R1 => c_x8_isStream N   (by omega) s a0) (fun s7 v8 => ?_)
  refine vZne 10 7 rfl i181_4 rfl rfl ?_ ?_
  · refine vLan 11 i181_10 rfl rfl ?_
    refine vGetC 14 i181_11 f181_13 sh_77 rfl rfl ?_
    refine vLin 15 i181_14 rfl rfl ?_
    refine vIal 16 rfl i181_15 sh_78 rfl ?_
    refine vZne 22 19 rfl i181_16 rfl rfl ?_ ?_
    · refine vLan 23 i181_22 rfl rfl ?_
      refine vLan 24 i181_23 rfl rfl ?_
      refine vGet 27 i181_24 f181_39 sh_77 rfl rfl ?_
      refine vCallV 30 [.ref 77, vi (s7 77 9)] [] [(0, .ref 77), (1, vi (s7 77 9))] i181_27 rfl (xlk0 l181_375) (Or.inl rfl) m121 rfl rfl (Nat.le_of_ble_eq_true rfl) (Nat.le_of_ble_eq_true rfl) (Nat.le_of_ble_eq_true rfl) (xh0 sh_77 (by decide)) rfl rfl (fun R1 => c_x8_begins N   (by omega) s7 (s7 77 9)) (fun s9 => ?_)
      refine vK 31 i181_30 rfl ?_
      refine vSin0 32 [(2, vi 0), (0, .ref 77), (1, vi a0)] i181_31 m181 (by decide) rfl rfl ?_
      refine vKl 33 0 i181_32 (by decide) rfl ?_
      refine vSln0w 34 [(3, vl 0), (2, vi 0), (0, .ref 77), (1, vi a0)] i181_33 m181 (by decide) rfl rfl ?_
      refine vK 35 i181_34 rfl ?_
      refine vSi0 37 [(5, vi 1), (3, vl 0), (2, vi 0), (0, .ref 77), (1, vi a0)] i181_35 m181 (by decide) rfl rfl ?_
      refine vK 38 i181_37 rfl ?_
      refine vSi0 40 [(6, vi 0), (5, vi 1), (3, vl 0), (2, vi 0), (0, .ref 77), (1, vi a0)] i181_38 m181 (by decide) rfl rfl ?_
      exact fun hD => tLc [(0, .ref 77), (1, vi a0), (2, vi 0), (3, vl 0), (5, vi 1), (6, vi 0)] (xNdk [0, 1, 2, 3, 5, 6] rfl (by decide)) (xNdk [6, 5, 3, 2, 0, 1] rfl (by decide)) ⟨rfl, rfl, rfl, rfl, rfl, rfl, trivial⟩ (c_x8_rises_40L N  hd  N s9 a0 0 0 1 0 hD)
    · refine vKb 21 i181_19 (by decide) rfl ?_
      exact vRi i181_21 m181 rfl
  · refine vKb 9 i181_7 (by decide) rfl ?_
    exact vRi i181_9 m181 rfl
theorem i149_0 : xIns xg 149 0 = some (.iload_n 0) := by decide +kernel
theorem i149_1 : xIns xg 149 1 = some (.i2l) := by decide +kernel
theorem i149_2 : xIns xg 149 2 = some (.lconst 0) := by decide +kernel
theorem i149_3 : xIns xg 149 3 = some (.ldc2_w 272) := by decide +kernel
theorem c149_272 : xCon xg 149 272 = some (vl (3)) := by decide +kernel
theorem i149_6 : xIns xg 149 6 = some (.invokestatic 177) := by decide +kernel
theorem i149_9 : xIns xg 149 9 = some (.ireturn) := by decide +kernel
theorem m149 : (xMet xg 149).2.2 = (1, (some .boolean)) := by decide +kernel
def d_x8_isSheet (N : Nat)  (s : St) (a0 : Int) : Option Rs :=
  bI (d_x8_in N  s (w32 a0) 0 3) fun s1 v2 => (if v2 = 0 ∨ v2 = 1 then some (s1, v2) else none)
set_option maxHeartbeats 4000000 in
set_option maxRecDepth 100000 in
theorem c_x8_isSheet {sc : xS} {d : Nat} {R : Rs} (N : Nat)  (hd : 1 ≤ d)   (s : St) (a0 : Int) : d_x8_isSheet N  s a0 = some R → vT sc d 149 0 [(0, vi a0)] [] s (fun r => r = qI R) := by
  obtain ⟨d, rfl⟩ : ∃ d', d = d' + 1 := ⟨d - 1, by omega⟩
  unfold d_x8_isSheet
  refine vLin 1 i149_0 rfl rfl ?_
  refine vI2l 2 i149_1 rfl ?_
  refine vKl 3 0 i149_2 (by decide) rfl ?_
  refine vKd 6 i149_3 c149_272 rfl ?_
  refine vCallI 9 [vl (w32 a0), vl 0, vl 3] [] [(0, vl (w32 a0)), (2, vl 0), (4, vl 3)] i149_6 rfl (xlk1 l149_177) (Or.inr (Or.inl rfl)) m142 rfl rfl (Nat.le_of_ble_eq_true rfl) (Nat.le_of_ble_eq_true rfl) (Nat.le_of_ble_eq_true rfl) rfl rfl rfl (fun R1 => c_x8_in N   (by omega) s (w32 a0) 0 3) (fun s1 v2 => ?_)
  exact vRz i149_9 m149
theorem f183_163 : xFld xg 183 163 = some (7, 65) := by decide +kernel
theorem f183_166 : xFld xg 183 166 = some (7, 66) := by decide +kernel
theorem f183_169 : xFld xg 183 169 = some (7, 67) := by decide +kernel
theorem f183_172 : xFld xg 183 172 = some (7, 68) := by decide +kernel
theorem i183_77 : xIns xg 183 77 = some (.iload 4) := by decide +kernel
theorem i183_79 : xIns xg 183 79 = some (.iload_n 3) := by decide +kernel
theorem i183_80 : xIns xg 183 80 = some (.if_icmp .ge 26) := by decide +kernel
theorem i183_106 : xIns xg 183 106 = some (.iconst 1) := by decide +kernel
theorem i183_107 : xIns xg 183 107 = some (.ireturn) := by decide +kernel
theorem m183 : (xMet xg 183).2.2 = (5, (some .int)) := by decide +kernel
theorem i183_83 : xIns xg 183 83 = some (.iload_n 2) := by decide +kernel
theorem i183_84 : xIns xg 183 84 = some (.ifCond .lt 22) := by decide +kernel
theorem i183_87 : xIns xg 183 87 = some (.aload_n 0) := by decide +kernel
theorem i183_88 : xIns xg 183 88 = some (.getfield 172) := by decide +kernel
theorem i183_91 : xIns xg 183 91 = some (.bipush 40) := by decide +kernel
theorem i183_93 : xIns xg 183 93 = some (.iload_n 1) := by decide +kernel
theorem i183_94 : xIns xg 183 94 = some (.imul) := by decide +kernel
theorem i183_95 : xIns xg 183 95 = some (.iload 4) := by decide +kernel
theorem i183_97 : xIns xg 183 97 = some (.iadd) := by decide +kernel
theorem i183_98 : xIns xg 183 98 = some (.lconst 0) := by decide +kernel
theorem i183_99 : xIns xg 183 99 = some (.lastore) := by decide +kernel
theorem i183_100 : xIns xg 183 100 = some (.iinc 4 1) := by decide +kernel
theorem i183_103 : xIns xg 183 103 = some (.goto (-26)) := by decide +kernel
theorem i183_59 : xIns xg 183 59 = some (.bastore) := by decide +kernel
theorem i183_60 : xIns xg 183 60 = some (.aload_n 0) := by decide +kernel
theorem i183_61 : xIns xg 183 61 = some (.getfield 166) := by decide +kernel
theorem i183_64 : xIns xg 183 64 = some (.iload_n 1) := by decide +kernel
theorem i183_65 : xIns xg 183 65 = some (.iload_n 2) := by decide +kernel
theorem i183_66 : xIns xg 183 66 = some (.iastore) := by decide +kernel
theorem i183_67 : xIns xg 183 67 = some (.aload_n 0) := by decide +kernel
theorem i183_68 : xIns xg 183 68 = some (.getfield 169) := by decide +kernel
theorem i183_71 : xIns xg 183 71 = some (.iload_n 1) := by decide +kernel
theorem i183_72 : xIns xg 183 72 = some (.iload_n 3) := by decide +kernel
theorem i183_73 : xIns xg 183 73 = some (.iastore) := by decide +kernel
theorem i183_74 : xIns xg 183 74 = some (.iconst 0) := by decide +kernel
theorem i183_75 : xIns xg 183 75 = some (.istore 4) := by decide +kernel
theorem i183_45 : xIns xg 183 45 = some (.aload_n 0) := by decide +kernel
theorem i183_46 : xIns xg 183 46 = some (.getfield 163) := by decide +kernel
theorem i183_49 : xIns xg 183 49 = some (.iload_n 1) := by decide +kernel
theorem i183_50 : xIns xg 183 50 = some (.iload_n 2) := by decide +kernel
theorem i183_51 : xIns xg 183 51 = some (.ifCond .lt 7) := by decide +kernel
theorem i183_58 : xIns xg 183 58 = some (.iconst 0) := by decide +kernel
theorem i183_54 : xIns xg 183 54 = some (.iconst 1) := by decide +kernel
theorem i183_55 : xIns xg 183 55 = some (.goto 4) := by decide +kernel
theorem i183_34 : xIns xg 183 34 = some (.iload_n 2) := by decide +kernel
theorem i183_35 : xIns xg 183 35 = some (.ifCond .lt 10) := by decide +kernel
theorem i183_38 : xIns xg 183 38 = some (.iload_n 3) := by decide +kernel
theorem i183_39 : xIns xg 183 39 = some (.ifCond .ge 6) := by decide +kernel
theorem i183_42 : xIns xg 183 42 = some (.bipush (-14)) := by decide +kernel
theorem i183_44 : xIns xg 183 44 = some (.ireturn) := by decide +kernel
theorem i183_0 : xIns xg 183 0 = some (.iload_n 1) := by decide +kernel
theorem i183_1 : xIns xg 183 1 = some (.invokestatic 403) := by decide +kernel
theorem i183_4 : xIns xg 183 4 = some (.ifCond .eq 27) := by decide +kernel
theorem i183_31 : xIns xg 183 31 = some (.bipush (-2)) := by decide +kernel
theorem i183_33 : xIns xg 183 33 = some (.ireturn) := by decide +kernel
theorem i183_7 : xIns xg 183 7 = some (.iload_n 2) := by decide +kernel
theorem i183_8 : xIns xg 183 8 = some (.i2l) := by decide +kernel
theorem i183_9 : xIns xg 183 9 = some (.ldc2_w 427) := by decide +kernel
theorem c183_427 : xCon xg 183 427 = some (vl (-1)) := by decide +kernel
theorem i183_12 : xIns xg 183 12 = some (.ldc2_w 293) := by decide +kernel
theorem c183_293 : xCon xg 183 293 = some (vl (2)) := by decide +kernel
theorem i183_15 : xIns xg 183 15 = some (.invokestatic 177) := by decide +kernel
theorem i183_18 : xIns xg 183 18 = some (.ifCond .eq 13) := by decide +kernel
theorem i183_21 : xIns xg 183 21 = some (.iload_n 2) := by decide +kernel
theorem i183_22 : xIns xg 183 22 = some (.ifCond .lt 12) := by decide +kernel
theorem i183_25 : xIns xg 183 25 = some (.iload_n 3) := by decide +kernel
theorem i183_26 : xIns xg 183 26 = some (.bipush 40) := by decide +kernel
theorem i183_28 : xIns xg 183 28 = some (.if_icmp .le 6) := by decide +kernel
def d_x8_sheet_77 (N : Nat)  (k77 : St → Int → Int → Int → Int → Option Rs) (s : St) (x1 : Int) (x2 : Int) (x3 : Int) (x4 : Int) : Option Rs :=
  (if (w32 x4) < (w32 x3) then (if (w32 x2) < 0 then some (s, 1) else if 0 ≤ (w32 ((40 * x1) + x4)) ∧ (w32 ((40 * x1) + x4)) < ((160 : Nat) : Int) then bd (up s 129 (Int.toNat (w32 ((40 * x1) + x4))) 0) fun s1 => bd (x4 + 1) fun v2 => k77 s1 x1 x2 x3 v2 else none) else some (s, 1))
def d_x8_sheet_77L (N : Nat)  : Nat → St → Int → Int → Int → Int → Option Rs
  | 0 => fun _ _ _ _ _ => none
  | n + 1 => d_x8_sheet_77 N  (d_x8_sheet_77L N  n)
set_option maxHeartbeats 4000000 in
set_option maxRecDepth 100000 in
theorem c_x8_sheet_77 {sc : xS} {d : Nat} {R : Rs} (N : Nat)  (hd : 2 ≤ d)   (k77 : St → Int → Int → Int → Int → Option Rs) (hk77 : ∀ (s : St) (x1 : Int) (x2 : Int) (x3 : Int) (x4 : Int), k77 s x1 x2 x3 x4 = some R → vT sc d 183 77 [(0, .ref 77), (1, vi x1), (2, vi x2), (3, vi x3), (4, vi x4)] [] s (fun r => r = qI R)) (s : St) (x1 : Int) (x2 : Int) (x3 : Int) (x4 : Int) : d_x8_sheet_77 N  k77 s x1 x2 x3 x4 = some R → vT sc d 183 77 [(0, .ref 77), (1, vi x1), (2, vi x2), (3, vi x3), (4, vi x4)] [] s (fun r => r = qI R) := by
  obtain ⟨d, rfl⟩ : ∃ d', d = d' + 1 := ⟨d - 1, by omega⟩
  unfold d_x8_sheet_77
  refine vLi 79 i183_77 rfl rfl ?_
  refine vLin 80 i183_79 rfl rfl ?_
  refine vCge 106 83 rfl rfl i183_80 rfl rfl ?_ ?_
  · refine vK 107 i183_106 rfl ?_
    exact vRi i183_107 m183 rfl
  · refine vLin 84 i183_83 rfl rfl ?_
    refine vZlt 106 87 rfl i183_84 rfl rfl ?_ ?_
    · refine vK 107 i183_106 rfl ?_
      exact vRi i183_107 m183 rfl
    · refine vLan 88 i183_87 rfl rfl ?_
      refine vGetC 91 i183_88 f183_172 sh_77 rfl rfl ?_
      refine vKb 93 i183_91 (by decide) rfl ?_
      refine vLin 94 i183_93 rfl rfl ?_
      refine vImul 95 i183_94 rfl ?_
      refine vLi 97 i183_95 rfl rfl ?_
      refine vIadd 98 i183_97 rfl ?_
      refine vKl 99 0 i183_98 (by decide) rfl ?_
      refine vLas 100 rfl i183_99 sh_129 rfl (fun s1 => ?_)
      refine vInc 103 (fun v2 => [(4, vi v2), (0, .ref 77), (1, vi x1), (2, vi x2), (3, vi x3)]) i183_100 m183 (by decide) rfl (fun _ => rfl) rfl (fun v2 => ?_)
      refine vGo 77 i183_103 rfl ?_
      exact fun hD => tLc [(0, .ref 77), (1, vi x1), (2, vi x2), (3, vi x3), (4, vi v2)] (xNdk [0, 1, 2, 3, 4] rfl (by decide)) (xNdk [4, 0, 1, 2, 3] rfl (by decide)) ⟨rfl, rfl, rfl, rfl, rfl, trivial⟩ (hk77 s1 x1 x2 x3 v2 hD)
theorem c_x8_sheet_77L {sc : xS} {d : Nat} {R : Rs} (N : Nat)  (hd : 2 ≤ d)   : ∀ (n : Nat) (s : St) (x1 : Int) (x2 : Int) (x3 : Int) (x4 : Int), d_x8_sheet_77L N  n s x1 x2 x3 x4 = some R → vT sc d 183 77 [(0, .ref 77), (1, vi x1), (2, vi x2), (3, vi x3), (4, vi x4)] [] s (fun r => r = qI R) := by
  intro n
  induction n with
  | zero => intro s x1 x2 x3 x4 hD; cases hD
  | succ n ih => intro s x1 x2 x3 x4 hD; exact c_x8_sheet_77 N  hd  _ ih s x1 x2 x3 x4 hD
def d_x8_sheet_59 (N : Nat)  (s : St) (x1 : Int) (x2 : Int) (x3 : Int) (z0 : Int) (z1 : Int) : Option Rs :=
  if 0 ≤ (w32 z1) ∧ (w32 z1) < ((4 : Nat) : Int) then bd (up s 126 (Int.toNat (w32 z1)) (and32 z0 1)) fun s3 => if 0 ≤ (w32 x1) ∧ (w32 x1) < ((4 : Nat) : Int) then bd (up s3 127 (Int.toNat (w32 x1)) x2) fun s4 => if 0 ≤ (w32 x1) ∧ (w32 x1) < ((4 : Nat) : Int) then bd (up s4 128 (Int.toNat (w32 x1)) x3) fun s5 => d_x8_sheet_77L N  N s5 x1 x2 x3 0 else none else none else none
set_option maxHeartbeats 4000000 in
set_option maxRecDepth 100000 in
theorem c_x8_sheet_59 {sc : xS} {d : Nat} {R : Rs} (N : Nat)  (hd : 2 ≤ d)   (s : St) (x1 : Int) (x2 : Int) (x3 : Int) (z0 : Int) (z1 : Int) : d_x8_sheet_59 N  s x1 x2 x3 z0 z1 = some R → vT sc d 183 59 [(0, .ref 77), (1, vi x1), (2, vi x2), (3, vi x3)] [vi z0, vi z1, .ref 126] s (fun r => r = qI R) := by
  obtain ⟨d, rfl⟩ : ∃ d', d = d' + 1 := ⟨d - 1, by omega⟩
  unfold d_x8_sheet_59
  refine vZas 60 rfl i183_59 sh_126 rfl (fun s3 => ?_)
  refine vLan 61 i183_60 rfl rfl ?_
  refine vGetC 64 i183_61 f183_166 sh_77 rfl rfl ?_
  refine vLin 65 i183_64 rfl rfl ?_
  refine vLin 66 i183_65 rfl rfl ?_
  refine vIas 67 rfl i183_66 sh_127 rfl (fun s4 => ?_)
  refine vLan 68 i183_67 rfl rfl ?_
  refine vGetC 71 i183_68 f183_169 sh_77 rfl rfl ?_
  refine vLin 72 i183_71 rfl rfl ?_
  refine vLin 73 i183_72 rfl rfl ?_
  refine vIas 74 rfl i183_73 sh_128 rfl (fun s5 => ?_)
  refine vK 75 i183_74 rfl ?_
  refine vSi0 77 [(4, vi 0), (0, .ref 77), (1, vi x1), (2, vi x2), (3, vi x3)] i183_75 m183 (by decide) rfl rfl ?_
  exact fun hD => tLc [(0, .ref 77), (1, vi x1), (2, vi x2), (3, vi x3), (4, vi 0)] (xNdk [0, 1, 2, 3, 4] rfl (by decide)) (xNdk [4, 0, 1, 2, 3] rfl (by decide)) ⟨rfl, rfl, rfl, rfl, rfl, trivial⟩ (c_x8_sheet_77L N  hd  N s5 x1 x2 x3 0 hD)
def d_x8_sheet_45 (N : Nat)  (s : St) (x1 : Int) (x2 : Int) (x3 : Int) : Option Rs :=
  (if (w32 x2) < 0 then d_x8_sheet_59 N  s x1 x2 x3 0 x1 else d_x8_sheet_59 N  s x1 x2 x3 1 x1)
set_option maxHeartbeats 4000000 in
set_option maxRecDepth 100000 in
theorem c_x8_sheet_45 {sc : xS} {d : Nat} {R : Rs} (N : Nat)  (hd : 2 ≤ d)   (s : St) (x1 : Int) (x2 : Int) (x3 : Int) : d_x8_sheet_45 N  s x1 x2 x3 = some R → vT sc d 183 45 [(0, .ref 77), (1, vi x1), (2, vi x2), (3, vi x3)] [] s (fun r => r = qI R) := by
  obtain ⟨d, rfl⟩ : ∃ d', d = d' + 1 := ⟨d - 1, by omega⟩
  unfold d_x8_sheet_45
  refine vLan 46 i183_45 rfl rfl ?_
  refine vGetC 49 i183_46 f183_163 sh_77 rfl rfl ?_
  refine vLin 50 i183_49 rfl rfl ?_
  refine vLin 51 i183_50 rfl rfl ?_
  refine vZlt 58 54 rfl i183_51 rfl rfl ?_ ?_
  · refine vK 59 i183_58 rfl ?_
    exact fun hD => c_x8_sheet_59 N  hd  s x1 x2 x3 0 x1 hD
  · refine vK 55 i183_54 rfl ?_
    refine vGo 59 i183_55 rfl ?_
    exact fun hD => c_x8_sheet_59 N  hd  s x1 x2 x3 1 x1 hD
def d_x8_sheet_34 (N : Nat)  (s : St) (x1 : Int) (x2 : Int) (x3 : Int) : Option Rs :=
  (if (w32 x2) < 0 then d_x8_sheet_45 N  s x1 x2 x3 else (if (w32 x3) < 0 then some (s, (-14)) else d_x8_sheet_45 N  s x1 x2 x3))
set_option maxHeartbeats 4000000 in
set_option maxRecDepth 100000 in
theorem c_x8_sheet_34 {sc : xS} {d : Nat} {R : Rs} (N : Nat)  (hd : 2 ≤ d)   (s : St) (x1 : Int) (x2 : Int) (x3 : Int) : d_x8_sheet_34 N  s x1 x2 x3 = some R → vT sc d 183 34 [(0, .ref 77), (1, vi x1), (2, vi x2), (3, vi x3)] [] s (fun r => r = qI R) := by
  obtain ⟨d, rfl⟩ : ∃ d', d = d' + 1 := ⟨d - 1, by omega⟩
  unfold d_x8_sheet_34
  refine vLin 35 i183_34 rfl rfl ?_
  refine vZlt 45 38 rfl i183_35 rfl rfl ?_ ?_
  · exact fun hD => c_x8_sheet_45 N  hd  s x1 x2 x3 hD
  · refine vLin 39 i183_38 rfl rfl ?_
    refine vZge 45 42 rfl i183_39 rfl rfl ?_ ?_
    · exact fun hD => c_x8_sheet_45 N  hd  s x1 x2 x3 hD
    · refine vKb 44 i183_42 (by decide) rfl ?_
      exact vRi i183_44 m183 rfl
def d_x8_sheet (N : Nat)  (s : St) (a0 : Int) (a1 : Int) (a2 : Int) : Option Rs :=
  bI (d_x8_isSheet N  s a0) fun s6 v7 => (if (w32 v7) = 0 then some (s6, (-2)) else bI (d_x8_in N  s6 (w32 a1) (-1) 2) fun s8 v9 => (if (w32 v9) = 0 then some (s8, (-2)) else (if (w32 a1) < 0 then d_x8_sheet_34 N  s8 a0 a1 a2 else (if 40 < (w32 a2) then some (s8, (-2)) else d_x8_sheet_34 N  s8 a0 a1 a2))))
set_option maxHeartbeats 4000000 in
set_option maxRecDepth 100000 in
theorem c_x8_sheet {sc : xS} {d : Nat} {R : Rs} (N : Nat)  (hd : 2 ≤ d)   (s : St) (a0 : Int) (a1 : Int) (a2 : Int) : d_x8_sheet N  s a0 a1 a2 = some R → vT sc d 183 0 [(0, .ref 77), (1, vi a0), (2, vi a1), (3, vi a2)] [] s (fun r => r = qI R) := by
  obtain ⟨d, rfl⟩ : ∃ d', d = d' + 1 := ⟨d - 1, by omega⟩
  unfold d_x8_sheet
  refine vLin 1 i183_0 rfl rfl ?_
  refine vCallI 4 [vi a0] [] [(0, vi a0)] i183_1 rfl (xlk1 l183_403) (Or.inr (Or.inl rfl)) m149 rfl rfl (Nat.le_of_ble_eq_true rfl) (Nat.le_of_ble_eq_true rfl) (Nat.le_of_ble_eq_true rfl) rfl rfl rfl (fun R1 => c_x8_isSheet N   (by omega) s a0) (fun s6 v7 => ?_)
  refine vZeq 31 7 rfl i183_4 rfl rfl ?_ ?_
  · refine vKb 33 i183_31 (by decide) rfl ?_
    exact vRi i183_33 m183 rfl
  · refine vLin 8 i183_7 rfl rfl ?_
    refine vI2l 9 i183_8 rfl ?_
    refine vKd 12 i183_9 c183_427 rfl ?_
    refine vKd 15 i183_12 c183_293 rfl ?_
    refine vCallI 18 [vl (w32 a1), vl (-1), vl 2] [] [(0, vl (w32 a1)), (2, vl (-1)), (4, vl 2)] i183_15 rfl (xlk1 l183_177) (Or.inr (Or.inl rfl)) m142 rfl rfl (Nat.le_of_ble_eq_true rfl) (Nat.le_of_ble_eq_true rfl) (Nat.le_of_ble_eq_true rfl) rfl rfl rfl (fun R1 => c_x8_in N   (by omega) s6 (w32 a1) (-1) 2) (fun s8 v9 => ?_)
    refine vZeq 31 21 rfl i183_18 rfl rfl ?_ ?_
    · refine vKb 33 i183_31 (by decide) rfl ?_
      exact vRi i183_33 m183 rfl
    · refine vLin 22 i183_21 rfl rfl ?_
      refine vZlt 34 25 rfl i183_22 rfl rfl ?_ ?_
      · exact fun hD => c_x8_sheet_34 N  hd  s8 a0 a1 a2 hD
      · refine vLin 26 i183_25 rfl rfl ?_
        refine vKb 28 i183_26 (by decide) rfl ?_
        refine vCle 34 31 rfl (show w32 40 = 40 from rfl) i183_28 rfl rfl ?_ ?_
        · exact fun hD => c_x8_sheet_34 N  hd  s8 a0 a1 a2 hD
        · refine vKb 33 i183_31 (by decide) rfl ?_
          exact vRi i183_33 m183 rfl
theorem f132_13 : xFld xg 132 13 = some (7, 1) := by decide +kernel
theorem f132_39 : xFld xg 132 39 = some (7, 9) := by decide +kernel
theorem f132_326 : xFld xg 132 326 = some (7, 36) := by decide +kernel
theorem f132_172 : xFld xg 132 172 = some (7, 68) := by decide +kernel
theorem f132_115 : xFld xg 132 115 = some (7, 47) := by decide +kernel
theorem f132_351 : xFld xg 132 351 = some (7, 38) := by decide +kernel
theorem i132_142 : xIns xg 132 142 = some (.iload 6) := by decide +kernel
theorem i132_144 : xIns xg 132 144 = some (.iload 4) := by decide +kernel
theorem i132_146 : xIns xg 132 146 = some (.if_icmp .ge 28) := by decide +kernel
theorem i132_174 : xIns xg 132 174 = some (.iload 4) := by decide +kernel
theorem i132_176 : xIns xg 132 176 = some (.ireturn) := by decide +kernel
theorem m132 : (xMet xg 132).2.2 = (7, (some .int)) := by decide +kernel
theorem i132_149 : xIns xg 132 149 = some (.aload_n 0) := by decide +kernel
theorem i132_150 : xIns xg 132 150 = some (.getfield 172) := by decide +kernel
theorem i132_153 : xIns xg 132 153 = some (.bipush 40) := by decide +kernel
theorem i132_155 : xIns xg 132 155 = some (.iload_n 1) := by decide +kernel
theorem i132_156 : xIns xg 132 156 = some (.imul) := by decide +kernel
theorem i132_157 : xIns xg 132 157 = some (.iload 6) := by decide +kernel
theorem i132_159 : xIns xg 132 159 = some (.iadd) := by decide +kernel
theorem i132_160 : xIns xg 132 160 = some (.aload_n 0) := by decide +kernel
theorem i132_161 : xIns xg 132 161 = some (.getfield 115) := by decide +kernel
theorem i132_164 : xIns xg 132 164 = some (.iload 6) := by decide +kernel
theorem i132_166 : xIns xg 132 166 = some (.laload) := by decide +kernel
theorem i132_167 : xIns xg 132 167 = some (.lastore) := by decide +kernel
theorem i132_168 : xIns xg 132 168 = some (.iinc 6 1) := by decide +kernel
theorem i132_171 : xIns xg 132 171 = some (.goto (-29)) := by decide +kernel
theorem i132_112 : xIns xg 132 112 = some (.aload_n 0) := by decide +kernel
theorem i132_113 : xIns xg 132 113 = some (.aload_n 0) := by decide +kernel
theorem i132_114 : xIns xg 132 114 = some (.getfield 326) := by decide +kernel
theorem i132_117 : xIns xg 132 117 = some (.putfield 378) := by decide +kernel
theorem p132_378 : xPut xg 132 378 = some (7, 39, .int) := by decide +kernel
theorem i132_120 : xIns xg 132 120 = some (.iload 5) := by decide +kernel
theorem i132_122 : xIns xg 132 122 = some (.bipush (-6)) := by decide +kernel
theorem i132_124 : xIns xg 132 124 = some (.if_icmp .ne 6) := by decide +kernel
theorem i132_130 : xIns xg 132 130 = some (.aload_n 0) := by decide +kernel
theorem i132_131 : xIns xg 132 131 = some (.iload_n 1) := by decide +kernel
theorem i132_132 : xIns xg 132 132 = some (.iconst 0) := by decide +kernel
theorem i132_133 : xIns xg 132 133 = some (.iload 4) := by decide +kernel
theorem i132_135 : xIns xg 132 135 = some (.invokevirtual 408) := by decide +kernel
theorem i132_138 : xIns xg 132 138 = some (.pop) := by decide +kernel
theorem i132_139 : xIns xg 132 139 = some (.iconst 0) := by decide +kernel
theorem i132_140 : xIns xg 132 140 = some (.istore 6) := by decide +kernel
theorem i132_127 : xIns xg 132 127 = some (.bipush (-6)) := by decide +kernel
theorem i132_129 : xIns xg 132 129 = some (.ireturn) := by decide +kernel
theorem i132_103 : xIns xg 132 103 = some (.iadd) := by decide +kernel
theorem i132_104 : xIns xg 132 104 = some (.istore 4) := by decide +kernel
theorem i132_106 : xIns xg 132 106 = some (.iinc 6 1) := by decide +kernel
theorem i132_109 : xIns xg 132 109 = some (.goto (-51)) := by decide +kernel
theorem i132_58 : xIns xg 132 58 = some (.iload 6) := by decide +kernel
theorem i132_60 : xIns xg 132 60 = some (.iload_n 3) := by decide +kernel
theorem i132_61 : xIns xg 132 61 = some (.if_icmp .ge 51) := by decide +kernel
theorem i132_64 : xIns xg 132 64 = some (.iload 5) := by decide +kernel
theorem i132_66 : xIns xg 132 66 = some (.iconst 1) := by decide +kernel
theorem i132_67 : xIns xg 132 67 = some (.if_icmp .ne 45) := by decide +kernel
theorem i132_70 : xIns xg 132 70 = some (.aload_n 0) := by decide +kernel
theorem i132_71 : xIns xg 132 71 = some (.iload_n 2) := by decide +kernel
theorem i132_72 : xIns xg 132 72 = some (.iload 6) := by decide +kernel
theorem i132_74 : xIns xg 132 74 = some (.invokevirtual 381) := by decide +kernel
theorem i132_77 : xIns xg 132 77 = some (.istore 5) := by decide +kernel
theorem i132_79 : xIns xg 132 79 = some (.aload_n 0) := by decide +kernel
theorem i132_80 : xIns xg 132 80 = some (.getfield 115) := by decide +kernel
theorem i132_83 : xIns xg 132 83 = some (.iload 6) := by decide +kernel
theorem i132_85 : xIns xg 132 85 = some (.aload_n 0) := by decide +kernel
theorem i132_86 : xIns xg 132 86 = some (.getfield 351) := by decide +kernel
theorem i132_89 : xIns xg 132 89 = some (.lastore) := by decide +kernel
theorem i132_90 : xIns xg 132 90 = some (.iload 4) := by decide +kernel
theorem i132_92 : xIns xg 132 92 = some (.iload 5) := by decide +kernel
theorem i132_94 : xIns xg 132 94 = some (.iconst 1) := by decide +kernel
theorem i132_95 : xIns xg 132 95 = some (.if_icmp .ne 7) := by decide +kernel
theorem i132_102 : xIns xg 132 102 = some (.iconst 0) := by decide +kernel
theorem i132_98 : xIns xg 132 98 = some (.iconst 1) := by decide +kernel
theorem i132_99 : xIns xg 132 99 = some (.goto 4) := by decide +kernel
theorem i132_0 : xIns xg 132 0 = some (.iload_n 1) := by decide +kernel
theorem i132_1 : xIns xg 132 1 = some (.invokestatic 403) := by decide +kernel
theorem i132_4 : xIns xg 132 4 = some (.ifCond .eq 22) := by decide +kernel
theorem i132_26 : xIns xg 132 26 = some (.bipush (-2)) := by decide +kernel
theorem i132_28 : xIns xg 132 28 = some (.ireturn) := by decide +kernel
theorem i132_7 : xIns xg 132 7 = some (.iload_n 2) := by decide +kernel
theorem i132_8 : xIns xg 132 8 = some (.invokestatic 266) := by decide +kernel
theorem i132_11 : xIns xg 132 11 = some (.ifCond .eq 15) := by decide +kernel
theorem i132_14 : xIns xg 132 14 = some (.iload_n 3) := by decide +kernel
theorem i132_15 : xIns xg 132 15 = some (.i2l) := by decide +kernel
theorem i132_16 : xIns xg 132 16 = some (.lconst 0) := by decide +kernel
theorem i132_17 : xIns xg 132 17 = some (.ldc2_w 406) := by decide +kernel
theorem c132_406 : xCon xg 132 406 = some (vl (16)) := by decide +kernel
theorem i132_20 : xIns xg 132 20 = some (.invokestatic 177) := by decide +kernel
theorem i132_23 : xIns xg 132 23 = some (.ifCond .ne 6) := by decide +kernel
theorem i132_29 : xIns xg 132 29 = some (.aload_n 0) := by decide +kernel
theorem i132_30 : xIns xg 132 30 = some (.getfield 13) := by decide +kernel
theorem i132_33 : xIns xg 132 33 = some (.iload_n 2) := by decide +kernel
theorem i132_34 : xIns xg 132 34 = some (.iaload) := by decide +kernel
theorem i132_35 : xIns xg 132 35 = some (.ifCond .ne 6) := by decide +kernel
theorem i132_41 : xIns xg 132 41 = some (.aload_n 0) := by decide +kernel
theorem i132_42 : xIns xg 132 42 = some (.aload_n 0) := by decide +kernel
theorem i132_43 : xIns xg 132 43 = some (.getfield 39) := by decide +kernel
theorem i132_46 : xIns xg 132 46 = some (.invokevirtual 375) := by decide +kernel
theorem i132_49 : xIns xg 132 49 = some (.iconst 0) := by decide +kernel
theorem i132_50 : xIns xg 132 50 = some (.istore 4) := by decide +kernel
theorem i132_52 : xIns xg 132 52 = some (.iconst 1) := by decide +kernel
theorem i132_53 : xIns xg 132 53 = some (.istore 5) := by decide +kernel
theorem i132_55 : xIns xg 132 55 = some (.iconst 0) := by decide +kernel
theorem i132_56 : xIns xg 132 56 = some (.istore 6) := by decide +kernel
theorem i132_38 : xIns xg 132 38 = some (.bipush (-3)) := by decide +kernel
theorem i132_40 : xIns xg 132 40 = some (.ireturn) := by decide +kernel
def d_x8_film_142 (N : Nat)  (k142 : St → Int → Int → Int → Option Rs) (s : St) (x1 : Int) (x4 : Int) (x6 : Int) : Option Rs :=
  (if (w32 x6) < (w32 x4) then if 0 ≤ (w32 x6) ∧ (w32 x6) < ((16 : Nat) : Int) then if 0 ≤ (w32 ((40 * x1) + x6)) ∧ (w32 ((40 * x1) + x6)) < ((160 : Nat) : Int) then bd (up s 129 (Int.toNat (w32 ((40 * x1) + x6))) (s 110 (Int.toNat (w32 x6)))) fun s1 => bd (x6 + 1) fun v2 => k142 s1 x1 x4 v2 else none else none else some (s, x4))
def d_x8_film_142L (N : Nat)  : Nat → St → Int → Int → Int → Option Rs
  | 0 => fun _ _ _ _ => none
  | n + 1 => d_x8_film_142 N  (d_x8_film_142L N  n)
set_option maxHeartbeats 4000000 in
set_option maxRecDepth 100000 in
theorem c_x8_film_142 {sc : xS} {d : Nat} {R : Rs} (N : Nat)  (hd : 552 ≤ d)   (k142 : St → Int → Int → Int → Option Rs) (hk142 : ∀ (s : St) (x1 : Int) (x4 : Int) (x6 : Int), k142 s x1 x4 x6 = some R → vT sc d 132 142 [(0, .ref 77), (1, vi x1), (4, vi x4), (6, vi x6)] [] s (fun r => r = qI R)) (s : St) (x1 : Int) (x4 : Int) (x6 : Int) : d_x8_film_142 N  k142 s x1 x4 x6 = some R → vT sc d 132 142 [(0, .ref 77), (1, vi x1), (4, vi x4), (6, vi x6)] [] s (fun r => r = qI R) := by
  obtain ⟨d, rfl⟩ : ∃ d', d = d' + 1 := ⟨d - 1, by omega⟩
  unfold d_x8_film_142
  refine vLi 144 i132_142 rfl rfl ?_
  refine vLi 146 i132_144 rfl rfl ?_
  refine vCge 174 149 rfl rfl i132_146 rfl rfl ?_ ?_
  · refine vLi 176 i132_174 rfl rfl ?_
    exact vRi i132_176 m132 rfl
  · refine vLan 150 i132_149 rfl rfl ?_
    refine vGetC 153 i132_150 f132_172 sh_77 rfl rfl ?_
    refine vKb 155 i132_153 (by decide) rfl ?_
    refine vLin 156 i132_155 rfl rfl ?_
    refine vImul 157 i132_156 rfl ?_
    refine vLi 159 i132_157 rfl rfl ?_
    refine vIadd 160 i132_159 rfl ?_
    refine vLan 161 i132_160 rfl rfl ?_
    refine vGetC 164 i132_161 f132_115 sh_77 rfl rfl ?_
    refine vLi 166 i132_164 rfl rfl ?_
    refine vLal 167 rfl i132_166 sh_110 rfl ?_
    refine vLas 168 rfl i132_167 sh_129 rfl (fun s1 => ?_)
    refine vInc 171 (fun v2 => [(6, vi v2), (0, .ref 77), (1, vi x1), (4, vi x4)]) i132_168 m132 (by decide) rfl (fun _ => rfl) rfl (fun v2 => ?_)
    refine vGo 142 i132_171 rfl ?_
    exact fun hD => tLc [(0, .ref 77), (1, vi x1), (4, vi x4), (6, vi v2)] (xNdk [0, 1, 4, 6] rfl (by decide)) (xNdk [6, 0, 1, 4] rfl (by decide)) ⟨rfl, rfl, rfl, rfl, trivial⟩ (hk142 s1 x1 x4 v2 hD)
theorem c_x8_film_142L {sc : xS} {d : Nat} {R : Rs} (N : Nat)  (hd : 552 ≤ d)   : ∀ (n : Nat) (s : St) (x1 : Int) (x4 : Int) (x6 : Int), d_x8_film_142L N  n s x1 x4 x6 = some R → vT sc d 132 142 [(0, .ref 77), (1, vi x1), (4, vi x4), (6, vi x6)] [] s (fun r => r = qI R) := by
  intro n
  induction n with
  | zero => intro s x1 x4 x6 hD; cases hD
  | succ n ih => intro s x1 x4 x6 hD; exact c_x8_film_142 N  hd  _ ih s x1 x4 x6 hD
def d_x8_film_112 (N : Nat)  (s : St) (x1 : Int) (x4 : Int) (x5 : Int) : Option Rs :=
  bd (up s 77 39 (s 77 36)) fun s3 => (if (w32 x5) = (-6) then some (s3, (-6)) else bI (d_x8_sheet N  s3 x1 0 x4) fun s4 v5 => d_x8_film_142L N  N s4 x1 x4 0)
set_option maxHeartbeats 4000000 in
set_option maxRecDepth 100000 in
theorem c_x8_film_112 {sc : xS} {d : Nat} {R : Rs} (N : Nat)  (hd : 552 ≤ d)   (s : St) (x1 : Int) (x4 : Int) (x5 : Int) : d_x8_film_112 N  s x1 x4 x5 = some R → vT sc d 132 112 [(0, .ref 77), (1, vi x1), (4, vi x4), (5, vi x5)] [] s (fun r => r = qI R) := by
  obtain ⟨d, rfl⟩ : ∃ d', d = d' + 1 := ⟨d - 1, by omega⟩
  unfold d_x8_film_112
  refine vLan 113 i132_112 rfl rfl ?_
  refine vLan 114 i132_113 rfl rfl ?_
  refine vGet 117 i132_114 f132_326 sh_77 rfl rfl ?_
  refine vPut 120 i132_117 p132_378 sh_77 rfl rfl (fun s3 => ?_)
  refine vLi 122 i132_120 rfl rfl ?_
  refine vKb 124 i132_122 (by decide) rfl ?_
  refine vCne 130 127 rfl (show w32 (-6) = (-6) from rfl) i132_124 rfl rfl ?_ ?_
  · refine vLan 131 i132_130 rfl rfl ?_
    refine vLin 132 i132_131 rfl rfl ?_
    refine vK 133 i132_132 rfl ?_
    refine vLi 135 i132_133 rfl rfl ?_
    refine vCallI 138 [.ref 77, vi x1, vi 0, vi x4] [] [(0, .ref 77), (1, vi x1), (2, vi 0), (3, vi x4)] i132_135 rfl (xlk0 l132_408) (Or.inl rfl) m183 rfl rfl (Nat.le_of_ble_eq_true rfl) (Nat.le_of_ble_eq_true rfl) (Nat.le_of_ble_eq_true rfl) (xh0 sh_77 (by decide)) rfl rfl (fun R1 => c_x8_sheet N   (by omega) s3 x1 0 x4) (fun s4 v5 => ?_)
    refine vD 139 i132_138 rfl rfl rfl ?_
    refine vK 140 i132_139 rfl ?_
    refine vSi0 142 [(6, vi 0), (0, .ref 77), (1, vi x1), (4, vi x4), (5, vi x5)] i132_140 m132 (by decide) rfl rfl ?_
    exact fun hD => tLc [(0, .ref 77), (1, vi x1), (4, vi x4), (6, vi 0)] (xNdk [0, 1, 4, 6] rfl (by decide)) (xNdk [6, 0, 1, 4, 5] rfl (by decide)) ⟨rfl, rfl, rfl, rfl, trivial⟩ (c_x8_film_142L N  hd  N s4 x1 x4 0 hD)
  · refine vKb 129 i132_127 (by decide) rfl ?_
    exact vRi i132_129 m132 rfl
def d_x8_film_103 (N : Nat) (k58 : St → Int → Int → Int → Int → Int → Int → Option Rs) (s : St) (x1 : Int) (x2 : Int) (x3 : Int) (x5 : Int) (x6 : Int) (z0 : Int) (z1 : Int) : Option Rs :=
  bd (z1 + z0) fun v6 => bd (x6 + 1) fun v7 => k58 s x1 x2 x3 v6 x5 v7
set_option maxHeartbeats 4000000 in
set_option maxRecDepth 100000 in
theorem c_x8_film_103 {sc : xS} {d : Nat} {R : Rs} (N : Nat)  (hd : 552 ≤ d) (k58 : St → Int → Int → Int → Int → Int → Int → Option Rs) (hk58 : ∀ (s : St) (x1 : Int) (x2 : Int) (x3 : Int) (x4 : Int) (x5 : Int) (x6 : Int), k58 s x1 x2 x3 x4 x5 x6 = some R → vT sc d 132 58 [(0, .ref 77), (1, vi x1), (2, vi x2), (3, vi x3), (4, vi x4), (5, vi x5), (6, vi x6)] [] s (fun r => r = qI R))  (s : St) (x1 : Int) (x2 : Int) (x3 : Int) (x5 : Int) (x6 : Int) (z0 : Int) (z1 : Int) : d_x8_film_103 N k58 s x1 x2 x3 x5 x6 z0 z1 = some R → vT sc d 132 103 [(0, .ref 77), (1, vi x1), (2, vi x2), (3, vi x3), (5, vi x5), (6, vi x6)] [vi z0, vi z1] s (fun r => r = qI R) := by
  obtain ⟨d, rfl⟩ : ∃ d', d = d' + 1 := ⟨d - 1, by omega⟩
  unfold d_x8_film_103
  refine vIadd 104 i132_103 rfl ?_
  refine vSi 106 (fun v6 => [(4, vi v6), (0, .ref 77), (1, vi x1), (2, vi x2), (3, vi x3), (5, vi x5), (6, vi x6)]) i132_104 m132 (by decide) (fun v6 => (rfl : xst1 [(0, .ref 77), (1, vi x1), (2, vi x2), (3, vi x3), (5, vi x5), (6, vi x6)] 4 (vi v6) = [(4, vi v6), (0, .ref 77), (1, vi x1), (2, vi x2), (3, vi x3), (5, vi x5), (6, vi x6)])) rfl (fun v6 => ?_)
  refine vInc 109 (fun v7 => [(6, vi v7), (4, vi v6), (0, .ref 77), (1, vi x1), (2, vi x2), (3, vi x3), (5, vi x5)]) i132_106 m132 (by decide) rfl (fun _ => rfl) rfl (fun v7 => ?_)
  refine vGo 58 i132_109 rfl ?_
  exact fun hD => tLc [(0, .ref 77), (1, vi x1), (2, vi x2), (3, vi x3), (4, vi v6), (5, vi x5), (6, vi v7)] (xNdk [0, 1, 2, 3, 4, 5, 6] rfl (by decide)) (xNdk [6, 4, 0, 1, 2, 3, 5] rfl (by decide)) ⟨rfl, rfl, rfl, rfl, rfl, rfl, rfl, trivial⟩ (hk58 s x1 x2 x3 v6 x5 v7 hD)
def d_x8_film_58 (N : Nat)  (k58 : St → Int → Int → Int → Int → Int → Int → Option Rs) (s : St) (x1 : Int) (x2 : Int) (x3 : Int) (x4 : Int) (x5 : Int) (x6 : Int) : Option Rs :=
  (if (w32 x6) < (w32 x3) then (if (w32 x5) = 1 then bI (d_x8_outcome N  s x2 x6) fun s8 v9 => if 0 ≤ (w32 x6) ∧ (w32 x6) < ((16 : Nat) : Int) then bd (up s8 110 (Int.toNat (w32 x6)) (s8 77 38)) fun s10 => (if (w32 v9) = 1 then d_x8_film_103 N k58 s10 x1 x2 x3 v9 x6 1 x4 else d_x8_film_103 N k58 s10 x1 x2 x3 v9 x6 0 x4) else none else d_x8_film_112 N  s x1 x4 x5) else d_x8_film_112 N  s x1 x4 x5)
def d_x8_film_58L (N : Nat)  : Nat → St → Int → Int → Int → Int → Int → Int → Option Rs
  | 0 => fun _ _ _ _ _ _ _ => none
  | n + 1 => d_x8_film_58 N  (d_x8_film_58L N  n)
set_option maxHeartbeats 4000000 in
set_option maxRecDepth 100000 in
theorem c_x8_film_58 {sc : xS} {d : Nat} {R : Rs} (N : Nat)  (hd : 552 ≤ d)   (k58 : St → Int → Int → Int → Int → Int → Int → Option Rs) (hk58 : ∀ (s : St) (x1 : Int) (x2 : Int) (x3 : Int) (x4 : Int) (x5 : Int) (x6 : Int), k58 s x1 x2 x3 x4 x5 x6 = some R → vT sc d 132 58 [(0, .ref 77), (1, vi x1), (2, vi x2), (3, vi x3), (4, vi x4), (5, vi x5), (6, vi x6)] [] s (fun r => r = qI R)) (s : St) (x1 : Int) (x2 : Int) (x3 : Int) (x4 : Int) (x5 : Int) (x6 : Int) : d_x8_film_58 N  k58 s x1 x2 x3 x4 x5 x6 = some R → vT sc d 132 58 [(0, .ref 77), (1, vi x1), (2, vi x2), (3, vi x3), (4, vi x4), (5, vi x5), (6, vi x6)] [] s (fun r => r = qI R) := by
  obtain ⟨d, rfl⟩ : ∃ d', d = d' + 1 := ⟨d - 1, by omega⟩
  unfold d_x8_film_58
  refine vLi 60 i132_58 rfl rfl ?_
  refine vLin 61 i132_60 rfl rfl ?_
  refine vCge 112 64 rfl rfl i132_61 rfl rfl ?_ ?_
  · exact fun hD => tLc [(0, .ref 77), (1, vi x1), (4, vi x4), (5, vi x5)] (xNdk [0, 1, 4, 5] rfl (by decide)) (xNdk [0, 1, 2, 3, 4, 5, 6] rfl (by decide)) ⟨rfl, rfl, rfl, rfl, trivial⟩ (c_x8_film_112 N  hd  s x1 x4 x5 hD)
  · refine vLi 66 i132_64 rfl rfl ?_
    refine vK 67 i132_66 rfl ?_
    refine vCne 112 70 rfl (show w32 1 = 1 from rfl) i132_67 rfl rfl ?_ ?_
    · exact fun hD => tLc [(0, .ref 77), (1, vi x1), (4, vi x4), (5, vi x5)] (xNdk [0, 1, 4, 5] rfl (by decide)) (xNdk [0, 1, 2, 3, 4, 5, 6] rfl (by decide)) ⟨rfl, rfl, rfl, rfl, trivial⟩ (c_x8_film_112 N  hd  s x1 x4 x5 hD)
    · refine vLan 71 i132_70 rfl rfl ?_
      refine vLin 72 i132_71 rfl rfl ?_
      refine vLi 74 i132_72 rfl rfl ?_
      refine vCallI 77 [.ref 77, vi x2, vi x6] [] [(0, .ref 77), (1, vi x2), (2, vi x6)] i132_74 rfl (xlk0 l132_381) (Or.inl rfl) m172 rfl rfl (Nat.le_of_ble_eq_true rfl) (Nat.le_of_ble_eq_true rfl) (Nat.le_of_ble_eq_true rfl) (xh0 sh_77 (by decide)) rfl rfl (fun R1 => c_x8_outcome N   (by omega) s x2 x6) (fun s8 v9 => ?_)
      refine vSi0 79 [(5, vi v9), (0, .ref 77), (1, vi x1), (2, vi x2), (3, vi x3), (4, vi x4), (6, vi x6)] i132_77 m132 (by decide) rfl rfl ?_
      refine vLan 80 i132_79 rfl rfl ?_
      refine vGetC 83 i132_80 f132_115 sh_77 rfl rfl ?_
      refine vLi 85 i132_83 rfl rfl ?_
      refine vLan 86 i132_85 rfl rfl ?_
      refine vGetL 89 i132_86 f132_351 sh_77 rfl rfl ?_
      refine vLas 90 rfl i132_89 sh_110 rfl (fun s10 => ?_)
      refine vLi 92 i132_90 rfl rfl ?_
      refine vLi 94 i132_92 rfl rfl ?_
      refine vK 95 i132_94 rfl ?_
      refine vCne 102 98 rfl (show w32 1 = 1 from rfl) i132_95 rfl rfl ?_ ?_
      · refine vK 103 i132_102 rfl ?_
        exact fun hD => tLc [(0, .ref 77), (1, vi x1), (2, vi x2), (3, vi x3), (5, vi v9), (6, vi x6)] (xNdk [0, 1, 2, 3, 5, 6] rfl (by decide)) (xNdk [5, 0, 1, 2, 3, 4, 6] rfl (by decide)) ⟨rfl, rfl, rfl, rfl, rfl, rfl, trivial⟩ (c_x8_film_103 N  hd k58 hk58 s10 x1 x2 x3 v9 x6 0 x4 hD)
      · refine vK 99 i132_98 rfl ?_
        refine vGo 103 i132_99 rfl ?_
        exact fun hD => tLc [(0, .ref 77), (1, vi x1), (2, vi x2), (3, vi x3), (5, vi v9), (6, vi x6)] (xNdk [0, 1, 2, 3, 5, 6] rfl (by decide)) (xNdk [5, 0, 1, 2, 3, 4, 6] rfl (by decide)) ⟨rfl, rfl, rfl, rfl, rfl, rfl, trivial⟩ (c_x8_film_103 N  hd k58 hk58 s10 x1 x2 x3 v9 x6 1 x4 hD)
theorem c_x8_film_58L {sc : xS} {d : Nat} {R : Rs} (N : Nat)  (hd : 552 ≤ d)   : ∀ (n : Nat) (s : St) (x1 : Int) (x2 : Int) (x3 : Int) (x4 : Int) (x5 : Int) (x6 : Int), d_x8_film_58L N  n s x1 x2 x3 x4 x5 x6 = some R → vT sc d 132 58 [(0, .ref 77), (1, vi x1), (2, vi x2), (3, vi x3), (4, vi x4), (5, vi x5), (6, vi x6)] [] s (fun r => r = qI R) := by
  intro n
  induction n with
  | zero => intro s x1 x2 x3 x4 x5 x6 hD; cases hD
  | succ n ih => intro s x1 x2 x3 x4 x5 x6 hD; exact c_x8_film_58 N  hd  _ ih s x1 x2 x3 x4 x5 x6 hD
def d_x8_film (N : Nat)  (s : St) (a0 : Int) (a1 : Int) (a2 : Int) : Option Rs :=
  bI (d_x8_isSheet N  s a0) fun s11 v12 => (if (w32 v12) = 0 then some (s11, (-2)) else bI (d_x8_isStream N  s11 a1) fun s13 v14 => (if (w32 v14) = 0 then some (s13, (-2)) else bI (d_x8_in N  s13 (w32 a2) 0 16) fun s15 v16 => (if (w32 v16) = 0 then some (s15, (-2)) else if 0 ≤ (w32 a1) ∧ (w32 a1) < ((8 : Nat) : Int) then (if (w32 (s15 78 (Int.toNat (w32 a1)))) = 0 then some (s15, (-3)) else bV (d_x8_begins N  s15 (s15 77 9)) fun s17 => d_x8_film_58L N  N s17 a0 a1 a2 0 1 0) else none)))
set_option maxHeartbeats 4000000 in
set_option maxRecDepth 100000 in
theorem c_x8_film {sc : xS} {d : Nat} {R : Rs} (N : Nat)  (hd : 552 ≤ d)   (s : St) (a0 : Int) (a1 : Int) (a2 : Int) : d_x8_film N  s a0 a1 a2 = some R → vT sc d 132 0 [(0, .ref 77), (1, vi a0), (2, vi a1), (3, vi a2)] [] s (fun r => r = qI R) := by
  obtain ⟨d, rfl⟩ : ∃ d', d = d' + 1 := ⟨d - 1, by omega⟩
  unfold d_x8_film
  refine vLin 1 i132_0 rfl rfl ?_
  refine vCallI 4 [vi a0] [] [(0, vi a0)] i132_1 rfl (xlk1 l132_403) (Or.inr (Or.inl rfl)) m149 rfl rfl (Nat.le_of_ble_eq_true rfl) (Nat.le_of_ble_eq_true rfl) (Nat.le_of_ble_eq_true rfl) rfl rfl rfl (fun R1 => c_x8_isSheet N   (by omega) s a0) (fun s11 v12 => ?_)
  refine vZeq 26 7 rfl i132_4 rfl rfl ?_ ?_
  · refine vKb 28 i132_26 (by decide) rfl ?_
    exact vRi i132_28 m132 rfl
  · refine vLin 8 i132_7 rfl rfl ?_
    refine vCallI 11 [vi a1] [] [(0, vi a1)] i132_8 rfl (xlk1 l132_266) (Or.inr (Or.inl rfl)) m153 rfl rfl (Nat.le_of_ble_eq_true rfl) (Nat.le_of_ble_eq_true rfl) (Nat.le_of_ble_eq_true rfl) rfl rfl rfl (fun R1 => c_x8_isStream N   (by omega) s11 a1) (fun s13 v14 => ?_)
    refine vZeq 26 14 rfl i132_11 rfl rfl ?_ ?_
    · refine vKb 28 i132_26 (by decide) rfl ?_
      exact vRi i132_28 m132 rfl
    · refine vLin 15 i132_14 rfl rfl ?_
      refine vI2l 16 i132_15 rfl ?_
      refine vKl 17 0 i132_16 (by decide) rfl ?_
      refine vKd 20 i132_17 c132_406 rfl ?_
      refine vCallI 23 [vl (w32 a2), vl 0, vl 16] [] [(0, vl (w32 a2)), (2, vl 0), (4, vl 16)] i132_20 rfl (xlk1 l132_177) (Or.inr (Or.inl rfl)) m142 rfl rfl (Nat.le_of_ble_eq_true rfl) (Nat.le_of_ble_eq_true rfl) (Nat.le_of_ble_eq_true rfl) rfl rfl rfl (fun R1 => c_x8_in N   (by omega) s13 (w32 a2) 0 16) (fun s15 v16 => ?_)
      refine vZne 29 26 rfl i132_23 rfl rfl ?_ ?_
      · refine vLan 30 i132_29 rfl rfl ?_
        refine vGetC 33 i132_30 f132_13 sh_77 rfl rfl ?_
        refine vLin 34 i132_33 rfl rfl ?_
        refine vIal 35 rfl i132_34 sh_78 rfl ?_
        refine vZne 41 38 rfl i132_35 rfl rfl ?_ ?_
        · refine vLan 42 i132_41 rfl rfl ?_
          refine vLan 43 i132_42 rfl rfl ?_
          refine vGet 46 i132_43 f132_39 sh_77 rfl rfl ?_
          refine vCallV 49 [.ref 77, vi (s15 77 9)] [] [(0, .ref 77), (1, vi (s15 77 9))] i132_46 rfl (xlk0 l132_375) (Or.inl rfl) m121 rfl rfl (Nat.le_of_ble_eq_true rfl) (Nat.le_of_ble_eq_true rfl) (Nat.le_of_ble_eq_true rfl) (xh0 sh_77 (by decide)) rfl rfl (fun R1 => c_x8_begins N   (by omega) s15 (s15 77 9)) (fun s17 => ?_)
          refine vK 50 i132_49 rfl ?_
          refine vSi0 52 [(4, vi 0), (0, .ref 77), (1, vi a0), (2, vi a1), (3, vi a2)] i132_50 m132 (by decide) rfl rfl ?_
          refine vK 53 i132_52 rfl ?_
          refine vSi0 55 [(5, vi 1), (4, vi 0), (0, .ref 77), (1, vi a0), (2, vi a1), (3, vi a2)] i132_53 m132 (by decide) rfl rfl ?_
          refine vK 56 i132_55 rfl ?_
          refine vSi0 58 [(6, vi 0), (5, vi 1), (4, vi 0), (0, .ref 77), (1, vi a0), (2, vi a1), (3, vi a2)] i132_56 m132 (by decide) rfl rfl ?_
          exact fun hD => tLc [(0, .ref 77), (1, vi a0), (2, vi a1), (3, vi a2), (4, vi 0), (5, vi 1), (6, vi 0)] (xNdk [0, 1, 2, 3, 4, 5, 6] rfl (by decide)) (xNdk [6, 5, 4, 0, 1, 2, 3] rfl (by decide)) ⟨rfl, rfl, rfl, rfl, rfl, rfl, rfl, trivial⟩ (c_x8_film_58L N  hd  N s17 a0 a1 a2 0 1 0 hD)
        · refine vKb 40 i132_38 (by decide) rfl ?_
          exact vRi i132_40 m132 rfl
      · refine vKb 28 i132_26 (by decide) rfl ?_
        exact vRi i132_28 m132 rfl
theorem f152_39 : xFld xg 152 39 = some (7, 9) := by decide +kernel
theorem f152_169 : xFld xg 152 169 = some (7, 67) := by decide +kernel
theorem f152_351 : xFld xg 152 351 = some (7, 38) := by decide +kernel
theorem f152_172 : xFld xg 152 172 = some (7, 68) := by decide +kernel
theorem i152_86 : xIns xg 152 86 = some (.aload_n 0) := by decide +kernel
theorem i152_87 : xIns xg 152 87 = some (.invokevirtual 400) := by decide +kernel
theorem i152_90 : xIns xg 152 90 = some (.iload 4) := by decide +kernel
theorem i152_92 : xIns xg 152 92 = some (.ireturn) := by decide +kernel
theorem m152 : (xMet xg 152).2.2 = (6, (some .boolean)) := by decide +kernel
theorem i152_78 : xIns xg 152 78 = some (.istore 4) := by decide +kernel
theorem i152_80 : xIns xg 152 80 = some (.iinc 5 1) := by decide +kernel
theorem i152_83 : xIns xg 152 83 = some (.goto (-57)) := by decide +kernel
theorem i152_77 : xIns xg 152 77 = some (.iconst 0) := by decide +kernel
theorem i152_26 : xIns xg 152 26 = some (.iload 5) := by decide +kernel
theorem i152_28 : xIns xg 152 28 = some (.aload_n 0) := by decide +kernel
theorem i152_29 : xIns xg 152 29 = some (.getfield 169) := by decide +kernel
theorem i152_32 : xIns xg 152 32 = some (.iload_n 1) := by decide +kernel
theorem i152_33 : xIns xg 152 33 = some (.iaload) := by decide +kernel
theorem i152_34 : xIns xg 152 34 = some (.if_icmp .ge 52) := by decide +kernel
theorem i152_37 : xIns xg 152 37 = some (.iload 4) := by decide +kernel
theorem i152_39 : xIns xg 152 39 = some (.ifCond .eq 47) := by decide +kernel
theorem i152_42 : xIns xg 152 42 = some (.aload_n 0) := by decide +kernel
theorem i152_43 : xIns xg 152 43 = some (.iload_n 2) := by decide +kernel
theorem i152_44 : xIns xg 152 44 = some (.iload 5) := by decide +kernel
theorem i152_46 : xIns xg 152 46 = some (.invokevirtual 381) := by decide +kernel
theorem i152_49 : xIns xg 152 49 = some (.iconst 1) := by decide +kernel
theorem i152_50 : xIns xg 152 50 = some (.if_icmp .ne 27) := by decide +kernel
theorem i152_53 : xIns xg 152 53 = some (.aload_n 0) := by decide +kernel
theorem i152_54 : xIns xg 152 54 = some (.getfield 351) := by decide +kernel
theorem i152_57 : xIns xg 152 57 = some (.aload_n 0) := by decide +kernel
theorem i152_58 : xIns xg 152 58 = some (.getfield 172) := by decide +kernel
theorem i152_61 : xIns xg 152 61 = some (.bipush 40) := by decide +kernel
theorem i152_63 : xIns xg 152 63 = some (.iload_n 1) := by decide +kernel
theorem i152_64 : xIns xg 152 64 = some (.imul) := by decide +kernel
theorem i152_65 : xIns xg 152 65 = some (.iload 5) := by decide +kernel
theorem i152_67 : xIns xg 152 67 = some (.iadd) := by decide +kernel
theorem i152_68 : xIns xg 152 68 = some (.laload) := by decide +kernel
theorem i152_69 : xIns xg 152 69 = some (.lcmp) := by decide +kernel
theorem i152_70 : xIns xg 152 70 = some (.ifCond .ne 7) := by decide +kernel
theorem i152_73 : xIns xg 152 73 = some (.iconst 1) := by decide +kernel
theorem i152_74 : xIns xg 152 74 = some (.goto 4) := by decide +kernel
theorem i152_12 : xIns xg 152 12 = some (.aload_n 0) := by decide +kernel
theorem i152_13 : xIns xg 152 13 = some (.aload_n 0) := by decide +kernel
theorem i152_14 : xIns xg 152 14 = some (.getfield 39) := by decide +kernel
theorem i152_17 : xIns xg 152 17 = some (.invokevirtual 375) := by decide +kernel
theorem i152_20 : xIns xg 152 20 = some (.iconst 1) := by decide +kernel
theorem i152_21 : xIns xg 152 21 = some (.istore 4) := by decide +kernel
theorem i152_23 : xIns xg 152 23 = some (.iconst 0) := by decide +kernel
theorem i152_24 : xIns xg 152 24 = some (.istore 5) := by decide +kernel
theorem i152_0 : xIns xg 152 0 = some (.aload_n 0) := by decide +kernel
theorem i152_1 : xIns xg 152 1 = some (.invokevirtual 397) := by decide +kernel
theorem i152_4 : xIns xg 152 4 = some (.iload_n 3) := by decide +kernel
theorem i152_5 : xIns xg 152 5 = some (.ifCond .eq 7) := by decide +kernel
theorem i152_8 : xIns xg 152 8 = some (.aload_n 0) := by decide +kernel
theorem i152_9 : xIns xg 152 9 = some (.invokevirtual 269) := by decide +kernel
def d_x8_isSo_86 (N : Nat)  (s : St) (x4 : Int) : Option Rs :=
  bV (d_x8_laysBack N  s ) fun s1 => (if x4 = 0 ∨ x4 = 1 then some (s1, x4) else none)
set_option maxHeartbeats 4000000 in
set_option maxRecDepth 100000 in
theorem c_x8_isSo_86 {sc : xS} {d : Nat} {R : Rs} (N : Nat)  (hd : 552 ≤ d)   (s : St) (x4 : Int) : d_x8_isSo_86 N  s x4 = some R → vT sc d 152 86 [(0, .ref 77), (4, vi x4)] [] s (fun r => r = qI R) := by
  obtain ⟨d, rfl⟩ : ∃ d', d = d' + 1 := ⟨d - 1, by omega⟩
  unfold d_x8_isSo_86
  refine vLan 87 i152_86 rfl rfl ?_
  refine vCallV 90 [.ref 77] [] [(0, .ref 77)] i152_87 rfl (xlk0 l152_400) (Or.inl rfl) m162 rfl rfl (Nat.le_of_ble_eq_true rfl) (Nat.le_of_ble_eq_true rfl) (Nat.le_of_ble_eq_true rfl) (xh0 sh_77 (by decide)) rfl rfl (fun R1 => c_x8_laysBack N   (by omega) s ) (fun s1 => ?_)
  refine vLi 92 i152_90 rfl rfl ?_
  exact vRz i152_92 m152
def d_x8_isSo_78 (N : Nat) (k26 : St → Int → Int → Int → Int → Option Rs) (s : St) (x1 : Int) (x2 : Int) (x5 : Int) (z0 : Int) : Option Rs :=
  bd (x5 + 1) fun v3 => k26 s x1 x2 z0 v3
set_option maxHeartbeats 4000000 in
set_option maxRecDepth 100000 in
theorem c_x8_isSo_78 {sc : xS} {d : Nat} {R : Rs} (N : Nat)  (hd : 552 ≤ d) (k26 : St → Int → Int → Int → Int → Option Rs) (hk26 : ∀ (s : St) (x1 : Int) (x2 : Int) (x4 : Int) (x5 : Int), k26 s x1 x2 x4 x5 = some R → vT sc d 152 26 [(0, .ref 77), (1, vi x1), (2, vi x2), (4, vi x4), (5, vi x5)] [] s (fun r => r = qI R))  (s : St) (x1 : Int) (x2 : Int) (x5 : Int) (z0 : Int) : d_x8_isSo_78 N k26 s x1 x2 x5 z0 = some R → vT sc d 152 78 [(0, .ref 77), (1, vi x1), (2, vi x2), (5, vi x5)] [vi z0] s (fun r => r = qI R) := by
  obtain ⟨d, rfl⟩ : ∃ d', d = d' + 1 := ⟨d - 1, by omega⟩
  unfold d_x8_isSo_78
  refine vSi0 80 [(4, vi z0), (0, .ref 77), (1, vi x1), (2, vi x2), (5, vi x5)] i152_78 m152 (by decide) rfl rfl ?_
  refine vInc 83 (fun v3 => [(5, vi v3), (4, vi z0), (0, .ref 77), (1, vi x1), (2, vi x2)]) i152_80 m152 (by decide) rfl (fun _ => rfl) rfl (fun v3 => ?_)
  refine vGo 26 i152_83 rfl ?_
  exact fun hD => tLc [(0, .ref 77), (1, vi x1), (2, vi x2), (4, vi z0), (5, vi v3)] (xNdk [0, 1, 2, 4, 5] rfl (by decide)) (xNdk [5, 4, 0, 1, 2] rfl (by decide)) ⟨rfl, rfl, rfl, rfl, rfl, trivial⟩ (hk26 s x1 x2 z0 v3 hD)
def d_x8_isSo_77 (N : Nat) (k26 : St → Int → Int → Int → Int → Option Rs) (s : St) (x1 : Int) (x2 : Int) (x5 : Int) : Option Rs :=
  d_x8_isSo_78 N k26 s x1 x2 x5 0
set_option maxHeartbeats 4000000 in
set_option maxRecDepth 100000 in
theorem c_x8_isSo_77 {sc : xS} {d : Nat} {R : Rs} (N : Nat)  (hd : 552 ≤ d) (k26 : St → Int → Int → Int → Int → Option Rs) (hk26 : ∀ (s : St) (x1 : Int) (x2 : Int) (x4 : Int) (x5 : Int), k26 s x1 x2 x4 x5 = some R → vT sc d 152 26 [(0, .ref 77), (1, vi x1), (2, vi x2), (4, vi x4), (5, vi x5)] [] s (fun r => r = qI R))  (s : St) (x1 : Int) (x2 : Int) (x5 : Int) : d_x8_isSo_77 N k26 s x1 x2 x5 = some R → vT sc d 152 77 [(0, .ref 77), (1, vi x1), (2, vi x2), (5, vi x5)] [] s (fun r => r = qI R) := by
  obtain ⟨d, rfl⟩ : ∃ d', d = d' + 1 := ⟨d - 1, by omega⟩
  unfold d_x8_isSo_77
  refine vK 78 i152_77 rfl ?_
  exact fun hD => c_x8_isSo_78 N  hd k26 hk26 s x1 x2 x5 0 hD
def d_x8_isSo_26 (N : Nat)  (k26 : St → Int → Int → Int → Int → Option Rs) (s : St) (x1 : Int) (x2 : Int) (x4 : Int) (x5 : Int) : Option Rs :=
  if 0 ≤ (w32 x1) ∧ (w32 x1) < ((4 : Nat) : Int) then (if (w32 x5) < (w32 (s 128 (Int.toNat (w32 x1)))) then (if (w32 x4) = 0 then d_x8_isSo_86 N  s x4 else bI (d_x8_outcome N  s x2 x5) fun s4 v5 => (if (w32 v5) = 1 then if 0 ≤ (w32 ((40 * x1) + x5)) ∧ (w32 ((40 * x1) + x5)) < ((160 : Nat) : Int) then (if (w64 (s4 77 38)) = (w64 (s4 129 (Int.toNat (w32 ((40 * x1) + x5))))) then d_x8_isSo_78 N k26 s4 x1 x2 x5 1 else d_x8_isSo_77 N k26 s4 x1 x2 x5) else none else d_x8_isSo_77 N k26 s4 x1 x2 x5)) else d_x8_isSo_86 N  s x4) else none
def d_x8_isSo_26L (N : Nat)  : Nat → St → Int → Int → Int → Int → Option Rs
  | 0 => fun _ _ _ _ _ => none
  | n + 1 => d_x8_isSo_26 N  (d_x8_isSo_26L N  n)
set_option maxHeartbeats 4000000 in
set_option maxRecDepth 100000 in
theorem c_x8_isSo_26 {sc : xS} {d : Nat} {R : Rs} (N : Nat)  (hd : 552 ≤ d)   (k26 : St → Int → Int → Int → Int → Option Rs) (hk26 : ∀ (s : St) (x1 : Int) (x2 : Int) (x4 : Int) (x5 : Int), k26 s x1 x2 x4 x5 = some R → vT sc d 152 26 [(0, .ref 77), (1, vi x1), (2, vi x2), (4, vi x4), (5, vi x5)] [] s (fun r => r = qI R)) (s : St) (x1 : Int) (x2 : Int) (x4 : Int) (x5 : Int) : d_x8_isSo_26 N  k26 s x1 x2 x4 x5 = some R → vT sc d 152 26 [(0, .ref 77), (1, vi x1), (2, vi x2), (4, vi x4), (5, vi x5)] [] s (fun r => r = qI R) := by
  obtain ⟨d, rfl⟩ : ∃ d', d = d' + 1 := ⟨d - 1, by omega⟩
  unfold d_x8_isSo_26
  refine vLi 28 i152_26 rfl rfl ?_
  refine vLan 29 i152_28 rfl rfl ?_
  refine vGetC 32 i152_29 f152_169 sh_77 rfl rfl ?_
  refine vLin 33 i152_32 rfl rfl ?_
  refine vIal 34 rfl i152_33 sh_128 rfl ?_
  refine vCge 86 37 rfl rfl i152_34 rfl rfl ?_ ?_
  · exact fun hD => tLc [(0, .ref 77), (4, vi x4)] (xNdk [0, 4] rfl (by decide)) (xNdk [0, 1, 2, 4, 5] rfl (by decide)) ⟨rfl, rfl, trivial⟩ (c_x8_isSo_86 N  hd  s x4 hD)
  · refine vLi 39 i152_37 rfl rfl ?_
    refine vZeq 86 42 rfl i152_39 rfl rfl ?_ ?_
    · exact fun hD => tLc [(0, .ref 77), (4, vi x4)] (xNdk [0, 4] rfl (by decide)) (xNdk [0, 1, 2, 4, 5] rfl (by decide)) ⟨rfl, rfl, trivial⟩ (c_x8_isSo_86 N  hd  s x4 hD)
    · refine vLan 43 i152_42 rfl rfl ?_
      refine vLin 44 i152_43 rfl rfl ?_
      refine vLi 46 i152_44 rfl rfl ?_
      refine vCallI 49 [.ref 77, vi x2, vi x5] [] [(0, .ref 77), (1, vi x2), (2, vi x5)] i152_46 rfl (xlk0 l152_381) (Or.inl rfl) m172 rfl rfl (Nat.le_of_ble_eq_true rfl) (Nat.le_of_ble_eq_true rfl) (Nat.le_of_ble_eq_true rfl) (xh0 sh_77 (by decide)) rfl rfl (fun R1 => c_x8_outcome N   (by omega) s x2 x5) (fun s4 v5 => ?_)
      refine vK 50 i152_49 rfl ?_
      refine vCne 77 53 rfl (show w32 1 = 1 from rfl) i152_50 rfl rfl ?_ ?_
      · exact fun hD => tLc [(0, .ref 77), (1, vi x1), (2, vi x2), (5, vi x5)] (xNdk [0, 1, 2, 5] rfl (by decide)) (xNdk [0, 1, 2, 4, 5] rfl (by decide)) ⟨rfl, rfl, rfl, rfl, trivial⟩ (c_x8_isSo_77 N  hd k26 hk26 s4 x1 x2 x5 hD)
      · refine vLan 54 i152_53 rfl rfl ?_
        refine vGetL 57 i152_54 f152_351 sh_77 rfl rfl ?_
        refine vLan 58 i152_57 rfl rfl ?_
        refine vGetC 61 i152_58 f152_172 sh_77 rfl rfl ?_
        refine vKb 63 i152_61 (by decide) rfl ?_
        refine vLin 64 i152_63 rfl rfl ?_
        refine vImul 65 i152_64 rfl ?_
        refine vLi 67 i152_65 rfl rfl ?_
        refine vIadd 68 i152_67 rfl ?_
        refine vLal 69 rfl i152_68 sh_129 rfl ?_
        refine vLcne 77 70 73 rfl rfl i152_69 rfl i152_70 rfl rfl ?_ ?_
        · exact fun hD => tLc [(0, .ref 77), (1, vi x1), (2, vi x2), (5, vi x5)] (xNdk [0, 1, 2, 5] rfl (by decide)) (xNdk [0, 1, 2, 4, 5] rfl (by decide)) ⟨rfl, rfl, rfl, rfl, trivial⟩ (c_x8_isSo_77 N  hd k26 hk26 s4 x1 x2 x5 hD)
        · refine vK 74 i152_73 rfl ?_
          refine vGo 78 i152_74 rfl ?_
          exact fun hD => tLc [(0, .ref 77), (1, vi x1), (2, vi x2), (5, vi x5)] (xNdk [0, 1, 2, 5] rfl (by decide)) (xNdk [0, 1, 2, 4, 5] rfl (by decide)) ⟨rfl, rfl, rfl, rfl, trivial⟩ (c_x8_isSo_78 N  hd k26 hk26 s4 x1 x2 x5 1 hD)
theorem c_x8_isSo_26L {sc : xS} {d : Nat} {R : Rs} (N : Nat)  (hd : 552 ≤ d)   : ∀ (n : Nat) (s : St) (x1 : Int) (x2 : Int) (x4 : Int) (x5 : Int), d_x8_isSo_26L N  n s x1 x2 x4 x5 = some R → vT sc d 152 26 [(0, .ref 77), (1, vi x1), (2, vi x2), (4, vi x4), (5, vi x5)] [] s (fun r => r = qI R) := by
  intro n
  induction n with
  | zero => intro s x1 x2 x4 x5 hD; cases hD
  | succ n ih => intro s x1 x2 x4 x5 hD; exact c_x8_isSo_26 N  hd  _ ih s x1 x2 x4 x5 hD
def d_x8_isSo_12 (N : Nat)  (s : St) (x1 : Int) (x2 : Int) : Option Rs :=
  bV (d_x8_begins N  s (s 77 9)) fun s6 => d_x8_isSo_26L N  N s6 x1 x2 1 0
set_option maxHeartbeats 4000000 in
set_option maxRecDepth 100000 in
theorem c_x8_isSo_12 {sc : xS} {d : Nat} {R : Rs} (N : Nat)  (hd : 552 ≤ d)   (s : St) (x1 : Int) (x2 : Int) : d_x8_isSo_12 N  s x1 x2 = some R → vT sc d 152 12 [(0, .ref 77), (1, vi x1), (2, vi x2)] [] s (fun r => r = qI R) := by
  obtain ⟨d, rfl⟩ : ∃ d', d = d' + 1 := ⟨d - 1, by omega⟩
  unfold d_x8_isSo_12
  refine vLan 13 i152_12 rfl rfl ?_
  refine vLan 14 i152_13 rfl rfl ?_
  refine vGet 17 i152_14 f152_39 sh_77 rfl rfl ?_
  refine vCallV 20 [.ref 77, vi (s 77 9)] [] [(0, .ref 77), (1, vi (s 77 9))] i152_17 rfl (xlk0 l152_375) (Or.inl rfl) m121 rfl rfl (Nat.le_of_ble_eq_true rfl) (Nat.le_of_ble_eq_true rfl) (Nat.le_of_ble_eq_true rfl) (xh0 sh_77 (by decide)) rfl rfl (fun R1 => c_x8_begins N   (by omega) s (s 77 9)) (fun s6 => ?_)
  refine vK 21 i152_20 rfl ?_
  refine vSi0 23 [(4, vi 1), (0, .ref 77), (1, vi x1), (2, vi x2)] i152_21 m152 (by decide) rfl rfl ?_
  refine vK 24 i152_23 rfl ?_
  refine vSi0 26 [(5, vi 0), (4, vi 1), (0, .ref 77), (1, vi x1), (2, vi x2)] i152_24 m152 (by decide) rfl rfl ?_
  exact fun hD => tLc [(0, .ref 77), (1, vi x1), (2, vi x2), (4, vi 1), (5, vi 0)] (xNdk [0, 1, 2, 4, 5] rfl (by decide)) (xNdk [5, 4, 0, 1, 2] rfl (by decide)) ⟨rfl, rfl, rfl, rfl, rfl, trivial⟩ (c_x8_isSo_26L N  hd  N s6 x1 x2 1 0 hD)
def d_x8_isSo (N : Nat)  (s : St) (a0 : Int) (a1 : Int) (a2 : Int) : Option Rs :=
  bV (d_x8_laysAside N  s ) fun s8 => (if (w32 a2) = 0 then d_x8_isSo_12 N  s8 a0 a1 else bV (d_x8_untells N  s8 ) fun s10 => d_x8_isSo_12 N  s10 a0 a1)
set_option maxHeartbeats 4000000 in
set_option maxRecDepth 100000 in
theorem c_x8_isSo {sc : xS} {d : Nat} {R : Rs} (N : Nat)  (hd : 552 ≤ d)   (s : St) (a0 : Int) (a1 : Int) (a2 : Int) : d_x8_isSo N  s a0 a1 a2 = some R → vT sc d 152 0 [(0, .ref 77), (1, vi a0), (2, vi a1), (3, vi a2)] [] s (fun r => r = qI R) := by
  obtain ⟨d, rfl⟩ : ∃ d', d = d' + 1 := ⟨d - 1, by omega⟩
  unfold d_x8_isSo
  refine vLan 1 i152_0 rfl rfl ?_
  refine vCallV 4 [.ref 77] [] [(0, .ref 77)] i152_1 rfl (xlk0 l152_397) (Or.inl rfl) m161 rfl rfl (Nat.le_of_ble_eq_true rfl) (Nat.le_of_ble_eq_true rfl) (Nat.le_of_ble_eq_true rfl) (xh0 sh_77 (by decide)) rfl rfl (fun R1 => c_x8_laysAside N   (by omega) s ) (fun s8 => ?_)
  refine vLin 5 i152_4 rfl rfl ?_
  refine vZeq 12 8 rfl i152_5 rfl rfl ?_ ?_
  · exact fun hD => tLc [(0, .ref 77), (1, vi a0), (2, vi a1)] (xNdk [0, 1, 2] rfl (by decide)) (xNdk [0, 1, 2, 3] rfl (by decide)) ⟨rfl, rfl, rfl, trivial⟩ (c_x8_isSo_12 N  hd  s8 a0 a1 hD)
  · refine vLan 9 i152_8 rfl rfl ?_
    refine vCallV 12 [.ref 77] [] [(0, .ref 77)] i152_9 rfl (xlk0 l152_269) (Or.inl rfl) m195 rfl rfl (Nat.le_of_ble_eq_true rfl) (Nat.le_of_ble_eq_true rfl) (Nat.le_of_ble_eq_true rfl) (xh0 sh_77 (by decide)) rfl rfl (fun R1 => c_x8_untells N   (by omega) s8 ) (fun s10 => ?_)
    exact fun hD => tLc [(0, .ref 77), (1, vi a0), (2, vi a1)] (xNdk [0, 1, 2] rfl (by decide)) (xNdk [0, 1, 2, 3] rfl (by decide)) ⟨rfl, rfl, rfl, trivial⟩ (c_x8_isSo_12 N  hd  s10 a0 a1 hD)
theorem f187_13 : xFld xg 187 13 = some (7, 1) := by decide +kernel
theorem f187_163 : xFld xg 187 163 = some (7, 65) := by decide +kernel
theorem f187_169 : xFld xg 187 169 = some (7, 67) := by decide +kernel
theorem f187_26 : xFld xg 187 26 = some (7, 5) := by decide +kernel
theorem f187_17 : xFld xg 187 17 = some (7, 2) := by decide +kernel
theorem i187_292 : xIns xg 187 292 = some (.istore 10) := by decide +kernel
theorem m187 : (xMet xg 187).2.2 = (13, (some .int)) := by decide +kernel
theorem i187_294 : xIns xg 187 294 = some (.iinc 11 (-1)) := by decide +kernel
theorem i187_297 : xIns xg 187 297 = some (.goto (-73)) := by decide +kernel
theorem i187_277 : xIns xg 187 277 = some (.iadd) := by decide +kernel
theorem i187_278 : xIns xg 187 278 = some (.istore 9) := by decide +kernel
theorem i187_280 : xIns xg 187 280 = some (.iload 12) := by decide +kernel
theorem i187_282 : xIns xg 187 282 = some (.ifCond .eq 8) := by decide +kernel
theorem i187_290 : xIns xg 187 290 = some (.iload 10) := by decide +kernel
theorem i187_285 : xIns xg 187 285 = some (.iload 11) := by decide +kernel
theorem i187_287 : xIns xg 187 287 = some (.goto 5) := by decide +kernel
theorem i187_243 : xIns xg 187 243 = some (.if_icmp .lt 57) := by decide +kernel
theorem i187_300 : xIns xg 187 300 = some (.aload_n 0) := by decide +kernel
theorem i187_301 : xIns xg 187 301 = some (.getfield 26) := by decide +kernel
theorem i187_304 : xIns xg 187 304 = some (.iload 5) := by decide +kernel
theorem i187_306 : xIns xg 187 306 = some (.lload 7) := by decide +kernel
theorem i187_308 : xIns xg 187 308 = some (.lastore) := by decide +kernel
theorem i187_309 : xIns xg 187 309 = some (.iload_n 3) := by decide +kernel
theorem i187_310 : xIns xg 187 310 = some (.iconst 4) := by decide +kernel
theorem i187_311 : xIns xg 187 311 = some (.irem) := by decide +kernel
theorem i187_312 : xIns xg 187 312 = some (.ifCond .ne 8) := by decide +kernel
theorem i187_320 : xIns xg 187 320 = some (.iload 10) := by decide +kernel
theorem i187_322 : xIns xg 187 322 = some (.ireturn) := by decide +kernel
theorem i187_315 : xIns xg 187 315 = some (.iload 9) := by decide +kernel
theorem i187_317 : xIns xg 187 317 = some (.goto 5) := by decide +kernel
theorem i187_246 : xIns xg 187 246 = some (.aload_n 0) := by decide +kernel
theorem i187_247 : xIns xg 187 247 = some (.getfield 26) := by decide +kernel
theorem i187_250 : xIns xg 187 250 = some (.iload 5) := by decide +kernel
theorem i187_252 : xIns xg 187 252 = some (.iload 11) := by decide +kernel
theorem i187_254 : xIns xg 187 254 = some (.i2l) := by decide +kernel
theorem i187_255 : xIns xg 187 255 = some (.lastore) := by decide +kernel
theorem i187_256 : xIns xg 187 256 = some (.aload_n 0) := by decide +kernel
theorem i187_257 : xIns xg 187 257 = some (.iload_n 1) := by decide +kernel
theorem i187_258 : xIns xg 187 258 = some (.iload_n 2) := by decide +kernel
theorem i187_259 : xIns xg 187 259 = some (.iconst 1) := by decide +kernel
theorem i187_260 : xIns xg 187 260 = some (.invokevirtual 412) := by decide +kernel
theorem i187_263 : xIns xg 187 263 = some (.istore 12) := by decide +kernel
theorem i187_265 : xIns xg 187 265 = some (.iload 9) := by decide +kernel
theorem i187_267 : xIns xg 187 267 = some (.iload 12) := by decide +kernel
theorem i187_269 : xIns xg 187 269 = some (.ifCond .eq 7) := by decide +kernel
theorem i187_276 : xIns xg 187 276 = some (.iconst 0) := by decide +kernel
theorem i187_272 : xIns xg 187 272 = some (.iconst 1) := by decide +kernel
theorem i187_273 : xIns xg 187 273 = some (.goto 4) := by decide +kernel
theorem i187_224 : xIns xg 187 224 = some (.iload 11) := by decide +kernel
theorem i187_226 : xIns xg 187 226 = some (.aload_n 0) := by decide +kernel
theorem i187_227 : xIns xg 187 227 = some (.getfield 17) := by decide +kernel
theorem i187_230 : xIns xg 187 230 = some (.iload 5) := by decide +kernel
theorem i187_232 : xIns xg 187 232 = some (.iaload) := by decide +kernel
theorem i187_233 : xIns xg 187 233 = some (.bipush 13) := by decide +kernel
theorem i187_235 : xIns xg 187 235 = some (.if_icmp .ne 7) := by decide +kernel
theorem i187_242 : xIns xg 187 242 = some (.iconst 0) := by decide +kernel
theorem i187_238 : xIns xg 187 238 = some (.iconst 1) := by decide +kernel
theorem i187_239 : xIns xg 187 239 = some (.goto 4) := by decide +kernel
theorem i187_222 : xIns xg 187 222 = some (.istore 11) := by decide +kernel
theorem i187_181 : xIns xg 187 181 = some (.iload_n 3) := by decide +kernel
theorem i187_182 : xIns xg 187 182 = some (.ifCond .ne 6) := by decide +kernel
theorem i187_188 : xIns xg 187 188 = some (.aload_n 0) := by decide +kernel
theorem i187_189 : xIns xg 187 189 = some (.getfield 26) := by decide +kernel
theorem i187_192 : xIns xg 187 192 = some (.iload 5) := by decide +kernel
theorem i187_194 : xIns xg 187 194 = some (.laload) := by decide +kernel
theorem i187_195 : xIns xg 187 195 = some (.lstore 7) := by decide +kernel
theorem i187_197 : xIns xg 187 197 = some (.iconst 0) := by decide +kernel
theorem i187_198 : xIns xg 187 198 = some (.istore 9) := by decide +kernel
theorem i187_200 : xIns xg 187 200 = some (.iconst (-1)) := by decide +kernel
theorem i187_201 : xIns xg 187 201 = some (.istore 10) := by decide +kernel
theorem i187_203 : xIns xg 187 203 = some (.aload_n 0) := by decide +kernel
theorem i187_204 : xIns xg 187 204 = some (.getfield 17) := by decide +kernel
theorem i187_207 : xIns xg 187 207 = some (.iload 5) := by decide +kernel
theorem i187_209 : xIns xg 187 209 = some (.iaload) := by decide +kernel
theorem i187_210 : xIns xg 187 210 = some (.bipush 13) := by decide +kernel
theorem i187_212 : xIns xg 187 212 = some (.if_icmp .ne 8) := by decide +kernel
theorem i187_220 : xIns xg 187 220 = some (.bipush 20) := by decide +kernel
theorem i187_215 : xIns xg 187 215 = some (.bipush 9) := by decide +kernel
theorem i187_217 : xIns xg 187 217 = some (.goto 5) := by decide +kernel
theorem i187_185 : xIns xg 187 185 = some (.iload 6) := by decide +kernel
theorem i187_187 : xIns xg 187 187 = some (.ireturn) := by decide +kernel
theorem i187_169 : xIns xg 187 169 = some (.iload 7) := by decide +kernel
theorem i187_171 : xIns xg 187 171 = some (.ishl) := by decide +kernel
theorem i187_172 : xIns xg 187 172 = some (.ior) := by decide +kernel
theorem i187_173 : xIns xg 187 173 = some (.istore 6) := by decide +kernel
theorem i187_175 : xIns xg 187 175 = some (.iinc 7 1) := by decide +kernel
theorem i187_178 : xIns xg 187 178 = some (.goto (-48)) := by decide +kernel
theorem i187_168 : xIns xg 187 168 = some (.iconst 0) := by decide +kernel
theorem i187_130 : xIns xg 187 130 = some (.iload 7) := by decide +kernel
theorem i187_132 : xIns xg 187 132 = some (.bipush 8) := by decide +kernel
theorem i187_134 : xIns xg 187 134 = some (.if_icmp .ge 47) := by decide +kernel
theorem i187_137 : xIns xg 187 137 = some (.iload_n 3) := by decide +kernel
theorem i187_138 : xIns xg 187 138 = some (.ifCond .ne 43) := by decide +kernel
theorem i187_141 : xIns xg 187 141 = some (.iload 6) := by decide +kernel
theorem i187_143 : xIns xg 187 143 = some (.aload_n 0) := by decide +kernel
theorem i187_144 : xIns xg 187 144 = some (.getfield 13) := by decide +kernel
theorem i187_147 : xIns xg 187 147 = some (.iload 7) := by decide +kernel
theorem i187_149 : xIns xg 187 149 = some (.iaload) := by decide +kernel
theorem i187_150 : xIns xg 187 150 = some (.ifCond .le 18) := by decide +kernel
theorem i187_153 : xIns xg 187 153 = some (.aload_n 0) := by decide +kernel
theorem i187_154 : xIns xg 187 154 = some (.iload_n 1) := by decide +kernel
theorem i187_155 : xIns xg 187 155 = some (.iload 7) := by decide +kernel
theorem i187_157 : xIns xg 187 157 = some (.iconst 0) := by decide +kernel
theorem i187_158 : xIns xg 187 158 = some (.invokevirtual 412) := by decide +kernel
theorem i187_161 : xIns xg 187 161 = some (.ifCond .eq 7) := by decide +kernel
theorem i187_164 : xIns xg 187 164 = some (.iconst 1) := by decide +kernel
theorem i187_165 : xIns xg 187 165 = some (.goto 4) := by decide +kernel
theorem i187_98 : xIns xg 187 98 = some (.aload_n 0) := by decide +kernel
theorem i187_99 : xIns xg 187 99 = some (.getfield 163) := by decide +kernel
theorem i187_102 : xIns xg 187 102 = some (.iload_n 1) := by decide +kernel
theorem i187_103 : xIns xg 187 103 = some (.baload) := by decide +kernel
theorem i187_104 : xIns xg 187 104 = some (.ifCond .ne 6) := by decide +kernel
theorem i187_110 : xIns xg 187 110 = some (.aload_n 0) := by decide +kernel
theorem i187_111 : xIns xg 187 111 = some (.getfield 169) := by decide +kernel
theorem i187_114 : xIns xg 187 114 = some (.iload_n 1) := by decide +kernel
theorem i187_115 : xIns xg 187 115 = some (.iaload) := by decide +kernel
theorem i187_116 : xIns xg 187 116 = some (.bipush 16) := by decide +kernel
theorem i187_118 : xIns xg 187 118 = some (.if_icmp .le 6) := by decide +kernel
theorem i187_124 : xIns xg 187 124 = some (.iconst 0) := by decide +kernel
theorem i187_125 : xIns xg 187 125 = some (.istore 6) := by decide +kernel
theorem i187_127 : xIns xg 187 127 = some (.iconst 0) := by decide +kernel
theorem i187_128 : xIns xg 187 128 = some (.istore 7) := by decide +kernel
theorem i187_121 : xIns xg 187 121 = some (.bipush (-2)) := by decide +kernel
theorem i187_123 : xIns xg 187 123 = some (.ireturn) := by decide +kernel
theorem i187_107 : xIns xg 187 107 = some (.bipush (-11)) := by decide +kernel
theorem i187_109 : xIns xg 187 109 = some (.ireturn) := by decide +kernel
theorem i187_78 : xIns xg 187 78 = some (.iload_n 3) := by decide +kernel
theorem i187_79 : xIns xg 187 79 = some (.ifCond .eq 19) := by decide +kernel
theorem i187_82 : xIns xg 187 82 = some (.aload_n 0) := by decide +kernel
theorem i187_83 : xIns xg 187 83 = some (.getfield 17) := by decide +kernel
theorem i187_86 : xIns xg 187 86 = some (.iload 5) := by decide +kernel
theorem i187_88 : xIns xg 187 88 = some (.iaload) := by decide +kernel
theorem i187_89 : xIns xg 187 89 = some (.invokestatic 282) := by decide +kernel
theorem i187_92 : xIns xg 187 92 = some (.ifCond .ne 6) := by decide +kernel
theorem i187_95 : xIns xg 187 95 = some (.bipush (-13)) := by decide +kernel
theorem i187_97 : xIns xg 187 97 = some (.ireturn) := by decide +kernel
theorem i187_33 : xIns xg 187 33 = some (.aload_n 0) := by decide +kernel
theorem i187_34 : xIns xg 187 34 = some (.getfield 13) := by decide +kernel
theorem i187_37 : xIns xg 187 37 = some (.iload_n 2) := by decide +kernel
theorem i187_38 : xIns xg 187 38 = some (.iaload) := by decide +kernel
theorem i187_39 : xIns xg 187 39 = some (.ifCond .ne 6) := by decide +kernel
theorem i187_45 : xIns xg 187 45 = some (.iload_n 3) := by decide +kernel
theorem i187_46 : xIns xg 187 46 = some (.iconst 4) := by decide +kernel
theorem i187_47 : xIns xg 187 47 = some (.idiv) := by decide +kernel
theorem i187_48 : xIns xg 187 48 = some (.iconst 1) := by decide +kernel
theorem i187_49 : xIns xg 187 49 = some (.isub) := by decide +kernel
theorem i187_50 : xIns xg 187 50 = some (.istore 4) := by decide +kernel
theorem i187_52 : xIns xg 187 52 = some (.bipush 24) := by decide +kernel
theorem i187_54 : xIns xg 187 54 = some (.iload_n 2) := by decide +kernel
theorem i187_55 : xIns xg 187 55 = some (.imul) := by decide +kernel
theorem i187_56 : xIns xg 187 56 = some (.iload 4) := by decide +kernel
theorem i187_58 : xIns xg 187 58 = some (.iadd) := by decide +kernel
theorem i187_59 : xIns xg 187 59 = some (.istore 5) := by decide +kernel
theorem i187_61 : xIns xg 187 61 = some (.iload_n 3) := by decide +kernel
theorem i187_62 : xIns xg 187 62 = some (.ifCond .eq 16) := by decide +kernel
theorem i187_65 : xIns xg 187 65 = some (.aload_n 0) := by decide +kernel
theorem i187_66 : xIns xg 187 66 = some (.iload_n 2) := by decide +kernel
theorem i187_67 : xIns xg 187 67 = some (.iload 4) := by decide +kernel
theorem i187_69 : xIns xg 187 69 = some (.invokevirtual 276) := by decide +kernel
theorem i187_72 : xIns xg 187 72 = some (.ifCond .ne 6) := by decide +kernel
theorem i187_75 : xIns xg 187 75 = some (.bipush (-12)) := by decide +kernel
theorem i187_77 : xIns xg 187 77 = some (.ireturn) := by decide +kernel
theorem i187_42 : xIns xg 187 42 = some (.bipush (-3)) := by decide +kernel
theorem i187_44 : xIns xg 187 44 = some (.ireturn) := by decide +kernel
theorem i187_0 : xIns xg 187 0 = some (.iload_n 1) := by decide +kernel
theorem i187_1 : xIns xg 187 1 = some (.invokestatic 403) := by decide +kernel
theorem i187_4 : xIns xg 187 4 = some (.ifCond .eq 26) := by decide +kernel
theorem i187_30 : xIns xg 187 30 = some (.bipush (-2)) := by decide +kernel
theorem i187_32 : xIns xg 187 32 = some (.ireturn) := by decide +kernel
theorem i187_7 : xIns xg 187 7 = some (.iload_n 2) := by decide +kernel
theorem i187_8 : xIns xg 187 8 = some (.invokestatic 266) := by decide +kernel
theorem i187_11 : xIns xg 187 11 = some (.ifCond .eq 19) := by decide +kernel
theorem i187_14 : xIns xg 187 14 = some (.iload_n 3) := by decide +kernel
theorem i187_15 : xIns xg 187 15 = some (.ifCond .eq 18) := by decide +kernel
theorem i187_18 : xIns xg 187 18 = some (.iload_n 3) := by decide +kernel
theorem i187_19 : xIns xg 187 19 = some (.iconst 4) := by decide +kernel
theorem i187_20 : xIns xg 187 20 = some (.if_icmp .lt 10) := by decide +kernel
theorem i187_23 : xIns xg 187 23 = some (.iload_n 3) := by decide +kernel
theorem i187_24 : xIns xg 187 24 = some (.iconst 4) := by decide +kernel
theorem i187_25 : xIns xg 187 25 = some (.irem) := by decide +kernel
theorem i187_26 : xIns xg 187 26 = some (.iconst 1) := by decide +kernel
theorem i187_27 : xIns xg 187 27 = some (.if_icmp .le 6) := by decide +kernel
def d_x8_tells_292 (N : Nat) (k224 : St → Int → Int → Int → Int → Int → Int → Int → Int → Option Rs) (s : St) (x1 : Int) (x2 : Int) (x3 : Int) (x5 : Int) (x7 : Int) (x9 : Int) (x11 : Int) (z0 : Int) : Option Rs :=
  bd (x11 + (-1)) fun v1 => k224 s x1 x2 x3 x5 x7 x9 z0 v1
set_option maxHeartbeats 4000000 in
set_option maxRecDepth 100000 in
theorem c_x8_tells_292 {sc : xS} {d : Nat} {R : Rs} (N : Nat)  (hd : 553 ≤ d) (k224 : St → Int → Int → Int → Int → Int → Int → Int → Int → Option Rs) (hk224 : ∀ (s : St) (x1 : Int) (x2 : Int) (x3 : Int) (x5 : Int) (x7 : Int) (x9 : Int) (x10 : Int) (x11 : Int), k224 s x1 x2 x3 x5 x7 x9 x10 x11 = some R → vT sc d 187 224 [(0, .ref 77), (1, vi x1), (2, vi x2), (3, vi x3), (5, vi x5), (7, vl x7), (9, vi x9), (10, vi x10), (11, vi x11)] [] s (fun r => r = qI R))  (s : St) (x1 : Int) (x2 : Int) (x3 : Int) (x5 : Int) (x7 : Int) (x9 : Int) (x11 : Int) (z0 : Int) : d_x8_tells_292 N k224 s x1 x2 x3 x5 x7 x9 x11 z0 = some R → vT sc d 187 292 [(0, .ref 77), (1, vi x1), (2, vi x2), (3, vi x3), (5, vi x5), (7, vl x7), (9, vi x9), (11, vi x11)] [vi z0] s (fun r => r = qI R) := by
  obtain ⟨d, rfl⟩ : ∃ d', d = d' + 1 := ⟨d - 1, by omega⟩
  unfold d_x8_tells_292
  refine vSi0 294 [(10, vi z0), (0, .ref 77), (1, vi x1), (2, vi x2), (3, vi x3), (5, vi x5), (7, vl x7), (9, vi x9), (11, vi x11)] i187_292 m187 (by decide) rfl rfl ?_
  refine vInc 297 (fun v1 => [(11, vi v1), (10, vi z0), (0, .ref 77), (1, vi x1), (2, vi x2), (3, vi x3), (5, vi x5), (7, vl x7), (9, vi x9)]) i187_294 m187 (by decide) rfl (fun _ => rfl) rfl (fun v1 => ?_)
  refine vGo 224 i187_297 rfl ?_
  exact fun hD => tLc [(0, .ref 77), (1, vi x1), (2, vi x2), (3, vi x3), (5, vi x5), (7, vl x7), (9, vi x9), (10, vi z0), (11, vi v1)] (xNdk [0, 1, 2, 3, 5, 7, 9, 10, 11] rfl (by decide)) (xNdk [11, 10, 0, 1, 2, 3, 5, 7, 9] rfl (by decide)) ⟨rfl, rfl, rfl, rfl, rfl, rfl, rfl, rfl, rfl, trivial⟩ (hk224 s x1 x2 x3 x5 x7 x9 z0 v1 hD)
def d_x8_tells_277 (N : Nat) (k224 : St → Int → Int → Int → Int → Int → Int → Int → Int → Option Rs) (s : St) (x1 : Int) (x2 : Int) (x3 : Int) (x5 : Int) (x7 : Int) (x10 : Int) (x11 : Int) (x12 : Int) (z0 : Int) (z1 : Int) : Option Rs :=
  bd (z1 + z0) fun v2 => (if (w32 x12) = 0 then d_x8_tells_292 N k224 s x1 x2 x3 x5 x7 v2 x11 x10 else d_x8_tells_292 N k224 s x1 x2 x3 x5 x7 v2 x11 x11)
set_option maxHeartbeats 4000000 in
set_option maxRecDepth 100000 in
theorem c_x8_tells_277 {sc : xS} {d : Nat} {R : Rs} (N : Nat)  (hd : 553 ≤ d) (k224 : St → Int → Int → Int → Int → Int → Int → Int → Int → Option Rs) (hk224 : ∀ (s : St) (x1 : Int) (x2 : Int) (x3 : Int) (x5 : Int) (x7 : Int) (x9 : Int) (x10 : Int) (x11 : Int), k224 s x1 x2 x3 x5 x7 x9 x10 x11 = some R → vT sc d 187 224 [(0, .ref 77), (1, vi x1), (2, vi x2), (3, vi x3), (5, vi x5), (7, vl x7), (9, vi x9), (10, vi x10), (11, vi x11)] [] s (fun r => r = qI R))  (s : St) (x1 : Int) (x2 : Int) (x3 : Int) (x5 : Int) (x7 : Int) (x10 : Int) (x11 : Int) (x12 : Int) (z0 : Int) (z1 : Int) : d_x8_tells_277 N k224 s x1 x2 x3 x5 x7 x10 x11 x12 z0 z1 = some R → vT sc d 187 277 [(0, .ref 77), (1, vi x1), (2, vi x2), (3, vi x3), (5, vi x5), (7, vl x7), (10, vi x10), (11, vi x11), (12, vi x12)] [vi z0, vi z1] s (fun r => r = qI R) := by
  obtain ⟨d, rfl⟩ : ∃ d', d = d' + 1 := ⟨d - 1, by omega⟩
  unfold d_x8_tells_277
  refine vIadd 278 i187_277 rfl ?_
  refine vSi 280 (fun v2 => [(9, vi v2), (0, .ref 77), (1, vi x1), (2, vi x2), (3, vi x3), (5, vi x5), (7, vl x7), (10, vi x10), (11, vi x11), (12, vi x12)]) i187_278 m187 (by decide) (fun v2 => (rfl : xst1 [(0, .ref 77), (1, vi x1), (2, vi x2), (3, vi x3), (5, vi x5), (7, vl x7), (10, vi x10), (11, vi x11), (12, vi x12)] 9 (vi v2) = [(9, vi v2), (0, .ref 77), (1, vi x1), (2, vi x2), (3, vi x3), (5, vi x5), (7, vl x7), (10, vi x10), (11, vi x11), (12, vi x12)])) rfl (fun v2 => ?_)
  refine vLi 282 i187_280 rfl rfl ?_
  refine vZeq 290 285 rfl i187_282 rfl rfl ?_ ?_
  · refine vLi 292 i187_290 rfl rfl ?_
    exact fun hD => tLc [(0, .ref 77), (1, vi x1), (2, vi x2), (3, vi x3), (5, vi x5), (7, vl x7), (9, vi v2), (11, vi x11)] (xNdk [0, 1, 2, 3, 5, 7, 9, 11] rfl (by decide)) (xNdk [9, 0, 1, 2, 3, 5, 7, 10, 11, 12] rfl (by decide)) ⟨rfl, rfl, rfl, rfl, rfl, rfl, rfl, rfl, trivial⟩ (c_x8_tells_292 N  hd k224 hk224 s x1 x2 x3 x5 x7 v2 x11 x10 hD)
  · refine vLi 287 i187_285 rfl rfl ?_
    refine vGo 292 i187_287 rfl ?_
    exact fun hD => tLc [(0, .ref 77), (1, vi x1), (2, vi x2), (3, vi x3), (5, vi x5), (7, vl x7), (9, vi v2), (11, vi x11)] (xNdk [0, 1, 2, 3, 5, 7, 9, 11] rfl (by decide)) (xNdk [9, 0, 1, 2, 3, 5, 7, 10, 11, 12] rfl (by decide)) ⟨rfl, rfl, rfl, rfl, rfl, rfl, rfl, rfl, trivial⟩ (c_x8_tells_292 N  hd k224 hk224 s x1 x2 x3 x5 x7 v2 x11 x11 hD)
def d_x8_tells_243 (N : Nat) (k224 : St → Int → Int → Int → Int → Int → Int → Int → Int → Option Rs) (s : St) (x1 : Int) (x2 : Int) (x3 : Int) (x5 : Int) (x7 : Int) (x9 : Int) (x10 : Int) (x11 : Int) (z0 : Int) (z1 : Int) : Option Rs :=
  (if (w32 z1) < (w32 z0) then if 0 ≤ (w32 x5) ∧ (w32 x5) < ((192 : Nat) : Int) then bd (up s 82 (Int.toNat (w32 x5)) x7) fun s3 => if 4 = 0 then none else (if (w32 (Int.tmod (w32 x3) 4)) = 0 then some (s3, x9) else some (s3, x10)) else none else if 0 ≤ (w32 x5) ∧ (w32 x5) < ((192 : Nat) : Int) then bd (up s 82 (Int.toNat (w32 x5)) (w32 x11)) fun s4 => bI (d_x8_isSo N  s4 x1 x2 1) fun s5 v6 => (if (w32 v6) = 0 then d_x8_tells_277 N k224 s5 x1 x2 x3 x5 x7 x10 x11 v6 0 x9 else d_x8_tells_277 N k224 s5 x1 x2 x3 x5 x7 x10 x11 v6 1 x9) else none)
set_option maxHeartbeats 4000000 in
set_option maxRecDepth 100000 in
theorem c_x8_tells_243 {sc : xS} {d : Nat} {R : Rs} (N : Nat)  (hd : 553 ≤ d) (k224 : St → Int → Int → Int → Int → Int → Int → Int → Int → Option Rs) (hk224 : ∀ (s : St) (x1 : Int) (x2 : Int) (x3 : Int) (x5 : Int) (x7 : Int) (x9 : Int) (x10 : Int) (x11 : Int), k224 s x1 x2 x3 x5 x7 x9 x10 x11 = some R → vT sc d 187 224 [(0, .ref 77), (1, vi x1), (2, vi x2), (3, vi x3), (5, vi x5), (7, vl x7), (9, vi x9), (10, vi x10), (11, vi x11)] [] s (fun r => r = qI R))  (s : St) (x1 : Int) (x2 : Int) (x3 : Int) (x5 : Int) (x7 : Int) (x9 : Int) (x10 : Int) (x11 : Int) (z0 : Int) (z1 : Int) : d_x8_tells_243 N k224 s x1 x2 x3 x5 x7 x9 x10 x11 z0 z1 = some R → vT sc d 187 243 [(0, .ref 77), (1, vi x1), (2, vi x2), (3, vi x3), (5, vi x5), (7, vl x7), (9, vi x9), (10, vi x10), (11, vi x11)] [vi z0, vi z1] s (fun r => r = qI R) := by
  obtain ⟨d, rfl⟩ : ∃ d', d = d' + 1 := ⟨d - 1, by omega⟩
  unfold d_x8_tells_243
  refine vClt 300 246 rfl rfl i187_243 rfl rfl ?_ ?_
  · refine vLan 301 i187_300 rfl rfl ?_
    refine vGetC 304 i187_301 f187_26 sh_77 rfl rfl ?_
    refine vLi 306 i187_304 rfl rfl ?_
    refine vLl 308 i187_306 rfl rfl ?_
    refine vLas 309 rfl i187_308 sh_82 rfl (fun s3 => ?_)
    refine vLin 310 i187_309 rfl rfl ?_
    refine vK 311 i187_310 rfl ?_
    refine vIrem 312 rfl (show w32 4 = 4 from rfl) i187_311 rfl ?_
    refine vZne 320 315 rfl i187_312 rfl rfl ?_ ?_
    · refine vLi 322 i187_320 rfl rfl ?_
      exact vRi i187_322 m187 rfl
    · refine vLi 317 i187_315 rfl rfl ?_
      refine vGo 322 i187_317 rfl ?_
      exact vRi i187_322 m187 rfl
  · refine vLan 247 i187_246 rfl rfl ?_
    refine vGetC 250 i187_247 f187_26 sh_77 rfl rfl ?_
    refine vLi 252 i187_250 rfl rfl ?_
    refine vLi 254 i187_252 rfl rfl ?_
    refine vI2l 255 i187_254 rfl ?_
    refine vLas 256 rfl i187_255 sh_82 rfl (fun s4 => ?_)
    refine vLan 257 i187_256 rfl rfl ?_
    refine vLin 258 i187_257 rfl rfl ?_
    refine vLin 259 i187_258 rfl rfl ?_
    refine vK 260 i187_259 rfl ?_
    refine vCallI 263 [.ref 77, vi x1, vi x2, vi 1] [] [(0, .ref 77), (1, vi x1), (2, vi x2), (3, vi 1)] i187_260 rfl (xlk0 l187_412) (Or.inl rfl) m152 rfl rfl (Nat.le_of_ble_eq_true rfl) (Nat.le_of_ble_eq_true rfl) (Nat.le_of_ble_eq_true rfl) (xh0 sh_77 (by decide)) rfl rfl (fun R1 => c_x8_isSo N   (by omega) s4 x1 x2 1) (fun s5 v6 => ?_)
    refine vSi0 265 [(12, vi v6), (0, .ref 77), (1, vi x1), (2, vi x2), (3, vi x3), (5, vi x5), (7, vl x7), (9, vi x9), (10, vi x10), (11, vi x11)] i187_263 m187 (by decide) rfl rfl ?_
    refine vLi 267 i187_265 rfl rfl ?_
    refine vLi 269 i187_267 rfl rfl ?_
    refine vZeq 276 272 rfl i187_269 rfl rfl ?_ ?_
    · refine vK 277 i187_276 rfl ?_
      exact fun hD => tLc [(0, .ref 77), (1, vi x1), (2, vi x2), (3, vi x3), (5, vi x5), (7, vl x7), (10, vi x10), (11, vi x11), (12, vi v6)] (xNdk [0, 1, 2, 3, 5, 7, 10, 11, 12] rfl (by decide)) (xNdk [12, 0, 1, 2, 3, 5, 7, 9, 10, 11] rfl (by decide)) ⟨rfl, rfl, rfl, rfl, rfl, rfl, rfl, rfl, rfl, trivial⟩ (c_x8_tells_277 N  hd k224 hk224 s5 x1 x2 x3 x5 x7 x10 x11 v6 0 x9 hD)
    · refine vK 273 i187_272 rfl ?_
      refine vGo 277 i187_273 rfl ?_
      exact fun hD => tLc [(0, .ref 77), (1, vi x1), (2, vi x2), (3, vi x3), (5, vi x5), (7, vl x7), (10, vi x10), (11, vi x11), (12, vi v6)] (xNdk [0, 1, 2, 3, 5, 7, 10, 11, 12] rfl (by decide)) (xNdk [12, 0, 1, 2, 3, 5, 7, 9, 10, 11] rfl (by decide)) ⟨rfl, rfl, rfl, rfl, rfl, rfl, rfl, rfl, rfl, trivial⟩ (c_x8_tells_277 N  hd k224 hk224 s5 x1 x2 x3 x5 x7 x10 x11 v6 1 x9 hD)
def d_x8_tells_224 (N : Nat)  (k224 : St → Int → Int → Int → Int → Int → Int → Int → Int → Option Rs) (s : St) (x1 : Int) (x2 : Int) (x3 : Int) (x5 : Int) (x7 : Int) (x9 : Int) (x10 : Int) (x11 : Int) : Option Rs :=
  if 0 ≤ (w32 x5) ∧ (w32 x5) < ((192 : Nat) : Int) then (if (w32 (s 79 (Int.toNat (w32 x5)))) = 13 then d_x8_tells_243 N k224 s x1 x2 x3 x5 x7 x9 x10 x11 1 x11 else d_x8_tells_243 N k224 s x1 x2 x3 x5 x7 x9 x10 x11 0 x11) else none
def d_x8_tells_224L (N : Nat)  : Nat → St → Int → Int → Int → Int → Int → Int → Int → Int → Option Rs
  | 0 => fun _ _ _ _ _ _ _ _ _ => none
  | n + 1 => d_x8_tells_224 N  (d_x8_tells_224L N  n)
set_option maxHeartbeats 4000000 in
set_option maxRecDepth 100000 in
theorem c_x8_tells_224 {sc : xS} {d : Nat} {R : Rs} (N : Nat)  (hd : 553 ≤ d)   (k224 : St → Int → Int → Int → Int → Int → Int → Int → Int → Option Rs) (hk224 : ∀ (s : St) (x1 : Int) (x2 : Int) (x3 : Int) (x5 : Int) (x7 : Int) (x9 : Int) (x10 : Int) (x11 : Int), k224 s x1 x2 x3 x5 x7 x9 x10 x11 = some R → vT sc d 187 224 [(0, .ref 77), (1, vi x1), (2, vi x2), (3, vi x3), (5, vi x5), (7, vl x7), (9, vi x9), (10, vi x10), (11, vi x11)] [] s (fun r => r = qI R)) (s : St) (x1 : Int) (x2 : Int) (x3 : Int) (x5 : Int) (x7 : Int) (x9 : Int) (x10 : Int) (x11 : Int) : d_x8_tells_224 N  k224 s x1 x2 x3 x5 x7 x9 x10 x11 = some R → vT sc d 187 224 [(0, .ref 77), (1, vi x1), (2, vi x2), (3, vi x3), (5, vi x5), (7, vl x7), (9, vi x9), (10, vi x10), (11, vi x11)] [] s (fun r => r = qI R) := by
  obtain ⟨d, rfl⟩ : ∃ d', d = d' + 1 := ⟨d - 1, by omega⟩
  unfold d_x8_tells_224
  refine vLi 226 i187_224 rfl rfl ?_
  refine vLan 227 i187_226 rfl rfl ?_
  refine vGetC 230 i187_227 f187_17 sh_77 rfl rfl ?_
  refine vLi 232 i187_230 rfl rfl ?_
  refine vIal 233 rfl i187_232 sh_79 rfl ?_
  refine vKb 235 i187_233 (by decide) rfl ?_
  refine vCne 242 238 rfl (show w32 13 = 13 from rfl) i187_235 rfl rfl ?_ ?_
  · refine vK 243 i187_242 rfl ?_
    exact fun hD => c_x8_tells_243 N  hd k224 hk224 s x1 x2 x3 x5 x7 x9 x10 x11 0 x11 hD
  · refine vK 239 i187_238 rfl ?_
    refine vGo 243 i187_239 rfl ?_
    exact fun hD => c_x8_tells_243 N  hd k224 hk224 s x1 x2 x3 x5 x7 x9 x10 x11 1 x11 hD
theorem c_x8_tells_224L {sc : xS} {d : Nat} {R : Rs} (N : Nat)  (hd : 553 ≤ d)   : ∀ (n : Nat) (s : St) (x1 : Int) (x2 : Int) (x3 : Int) (x5 : Int) (x7 : Int) (x9 : Int) (x10 : Int) (x11 : Int), d_x8_tells_224L N  n s x1 x2 x3 x5 x7 x9 x10 x11 = some R → vT sc d 187 224 [(0, .ref 77), (1, vi x1), (2, vi x2), (3, vi x3), (5, vi x5), (7, vl x7), (9, vi x9), (10, vi x10), (11, vi x11)] [] s (fun r => r = qI R) := by
  intro n
  induction n with
  | zero => intro s x1 x2 x3 x5 x7 x9 x10 x11 hD; cases hD
  | succ n ih => intro s x1 x2 x3 x5 x7 x9 x10 x11 hD; exact c_x8_tells_224 N  hd  _ ih s x1 x2 x3 x5 x7 x9 x10 x11 hD
def d_x8_tells_222 (N : Nat)  (s : St) (x1 : Int) (x2 : Int) (x3 : Int) (x5 : Int) (x7 : Int) (x9 : Int) (x10 : Int) (z0 : Int) : Option Rs :=
  d_x8_tells_224L N  N s x1 x2 x3 x5 x7 x9 x10 z0
set_option maxHeartbeats 4000000 in
set_option maxRecDepth 100000 in
theorem c_x8_tells_222 {sc : xS} {d : Nat} {R : Rs} (N : Nat)  (hd : 553 ≤ d)   (s : St) (x1 : Int) (x2 : Int) (x3 : Int) (x5 : Int) (x7 : Int) (x9 : Int) (x10 : Int) (z0 : Int) : d_x8_tells_222 N  s x1 x2 x3 x5 x7 x9 x10 z0 = some R → vT sc d 187 222 [(0, .ref 77), (1, vi x1), (2, vi x2), (3, vi x3), (5, vi x5), (7, vl x7), (9, vi x9), (10, vi x10)] [vi z0] s (fun r => r = qI R) := by
  obtain ⟨d, rfl⟩ : ∃ d', d = d' + 1 := ⟨d - 1, by omega⟩
  unfold d_x8_tells_222
  refine vSi0 224 [(11, vi z0), (0, .ref 77), (1, vi x1), (2, vi x2), (3, vi x3), (5, vi x5), (7, vl x7), (9, vi x9), (10, vi x10)] i187_222 m187 (by decide) rfl rfl ?_
  exact fun hD => tLc [(0, .ref 77), (1, vi x1), (2, vi x2), (3, vi x3), (5, vi x5), (7, vl x7), (9, vi x9), (10, vi x10), (11, vi z0)] (xNdk [0, 1, 2, 3, 5, 7, 9, 10, 11] rfl (by decide)) (xNdk [11, 0, 1, 2, 3, 5, 7, 9, 10] rfl (by decide)) ⟨rfl, rfl, rfl, rfl, rfl, rfl, rfl, rfl, rfl, trivial⟩ (c_x8_tells_224L N  hd  N s x1 x2 x3 x5 x7 x9 x10 z0 hD)
def d_x8_tells_181 (N : Nat)  (s : St) (x1 : Int) (x2 : Int) (x3 : Int) (x5 : Int) (x6 : Int) : Option Rs :=
  (if (w32 x3) = 0 then some (s, x6) else if 0 ≤ (w32 x5) ∧ (w32 x5) < ((192 : Nat) : Int) then bd (s 82 (Int.toNat (w32 x5))) fun v7 => if 0 ≤ (w32 x5) ∧ (w32 x5) < ((192 : Nat) : Int) then (if (w32 (s 79 (Int.toNat (w32 x5)))) = 13 then d_x8_tells_222 N  s x1 x2 x3 x5 v7 0 (-1) 9 else d_x8_tells_222 N  s x1 x2 x3 x5 v7 0 (-1) 20) else none else none)
set_option maxHeartbeats 4000000 in
set_option maxRecDepth 100000 in
theorem c_x8_tells_181 {sc : xS} {d : Nat} {R : Rs} (N : Nat)  (hd : 553 ≤ d)   (s : St) (x1 : Int) (x2 : Int) (x3 : Int) (x5 : Int) (x6 : Int) : d_x8_tells_181 N  s x1 x2 x3 x5 x6 = some R → vT sc d 187 181 [(0, .ref 77), (1, vi x1), (2, vi x2), (3, vi x3), (5, vi x5), (6, vi x6)] [] s (fun r => r = qI R) := by
  obtain ⟨d, rfl⟩ : ∃ d', d = d' + 1 := ⟨d - 1, by omega⟩
  unfold d_x8_tells_181
  refine vLin 182 i187_181 rfl rfl ?_
  refine vZne 188 185 rfl i187_182 rfl rfl ?_ ?_
  · refine vLan 189 i187_188 rfl rfl ?_
    refine vGetC 192 i187_189 f187_26 sh_77 rfl rfl ?_
    refine vLi 194 i187_192 rfl rfl ?_
    refine vLal 195 rfl i187_194 sh_82 rfl ?_
    refine vSl 197 (fun v7 => [(7, vl v7), (0, .ref 77), (1, vi x1), (2, vi x2), (3, vi x3), (5, vi x5), (6, vi x6)]) i187_195 m187 (by decide) (fun v7 => (rfl : xst2 [(0, .ref 77), (1, vi x1), (2, vi x2), (3, vi x3), (5, vi x5), (6, vi x6)] 7 (vl v7) = [(7, vl v7), (0, .ref 77), (1, vi x1), (2, vi x2), (3, vi x3), (5, vi x5), (6, vi x6)])) rfl (fun v7 => ?_)
    refine vK 198 i187_197 rfl ?_
    refine vSi0 200 [(9, vi 0), (7, vl v7), (0, .ref 77), (1, vi x1), (2, vi x2), (3, vi x3), (5, vi x5), (6, vi x6)] i187_198 m187 (by decide) rfl rfl ?_
    refine vK 201 i187_200 rfl ?_
    refine vSi0 203 [(10, vi (-1)), (9, vi 0), (7, vl v7), (0, .ref 77), (1, vi x1), (2, vi x2), (3, vi x3), (5, vi x5), (6, vi x6)] i187_201 m187 (by decide) rfl rfl ?_
    refine vLan 204 i187_203 rfl rfl ?_
    refine vGetC 207 i187_204 f187_17 sh_77 rfl rfl ?_
    refine vLi 209 i187_207 rfl rfl ?_
    refine vIal 210 rfl i187_209 sh_79 rfl ?_
    refine vKb 212 i187_210 (by decide) rfl ?_
    refine vCne 220 215 rfl (show w32 13 = 13 from rfl) i187_212 rfl rfl ?_ ?_
    · refine vKb 222 i187_220 (by decide) rfl ?_
      exact fun hD => tLc [(0, .ref 77), (1, vi x1), (2, vi x2), (3, vi x3), (5, vi x5), (7, vl v7), (9, vi 0), (10, vi (-1))] (xNdk [0, 1, 2, 3, 5, 7, 9, 10] rfl (by decide)) (xNdk [10, 9, 7, 0, 1, 2, 3, 5, 6] rfl (by decide)) ⟨rfl, rfl, rfl, rfl, rfl, rfl, rfl, rfl, trivial⟩ (c_x8_tells_222 N  hd  s x1 x2 x3 x5 v7 0 (-1) 20 hD)
    · refine vKb 217 i187_215 (by decide) rfl ?_
      refine vGo 222 i187_217 rfl ?_
      exact fun hD => tLc [(0, .ref 77), (1, vi x1), (2, vi x2), (3, vi x3), (5, vi x5), (7, vl v7), (9, vi 0), (10, vi (-1))] (xNdk [0, 1, 2, 3, 5, 7, 9, 10] rfl (by decide)) (xNdk [10, 9, 7, 0, 1, 2, 3, 5, 6] rfl (by decide)) ⟨rfl, rfl, rfl, rfl, rfl, rfl, rfl, rfl, trivial⟩ (c_x8_tells_222 N  hd  s x1 x2 x3 x5 v7 0 (-1) 9 hD)
  · refine vLi 187 i187_185 rfl rfl ?_
    exact vRi i187_187 m187 rfl
def d_x8_tells_169 (N : Nat) (k130 : St → Int → Int → Int → Int → Int → Int → Option Rs) (s : St) (x1 : Int) (x2 : Int) (x3 : Int) (x5 : Int) (x7 : Int) (z0 : Int) (z1 : Int) : Option Rs :=
  bd (or32 z1 (shl32 z0 x7)) fun v8 => bd (x7 + 1) fun v9 => k130 s x1 x2 x3 x5 v8 v9
set_option maxHeartbeats 4000000 in
set_option maxRecDepth 100000 in
theorem c_x8_tells_169 {sc : xS} {d : Nat} {R : Rs} (N : Nat)  (hd : 553 ≤ d) (k130 : St → Int → Int → Int → Int → Int → Int → Option Rs) (hk130 : ∀ (s : St) (x1 : Int) (x2 : Int) (x3 : Int) (x5 : Int) (x6 : Int) (x7 : Int), k130 s x1 x2 x3 x5 x6 x7 = some R → vT sc d 187 130 [(0, .ref 77), (1, vi x1), (2, vi x2), (3, vi x3), (5, vi x5), (6, vi x6), (7, vi x7)] [] s (fun r => r = qI R))  (s : St) (x1 : Int) (x2 : Int) (x3 : Int) (x5 : Int) (x7 : Int) (z0 : Int) (z1 : Int) : d_x8_tells_169 N k130 s x1 x2 x3 x5 x7 z0 z1 = some R → vT sc d 187 169 [(0, .ref 77), (1, vi x1), (2, vi x2), (3, vi x3), (5, vi x5), (7, vi x7)] [vi z0, vi z1] s (fun r => r = qI R) := by
  obtain ⟨d, rfl⟩ : ∃ d', d = d' + 1 := ⟨d - 1, by omega⟩
  unfold d_x8_tells_169
  refine vLi 171 i187_169 rfl rfl ?_
  refine vIshl 172 i187_171 rfl ?_
  refine vIor 173 i187_172 rfl ?_
  refine vSi 175 (fun v8 => [(6, vi v8), (0, .ref 77), (1, vi x1), (2, vi x2), (3, vi x3), (5, vi x5), (7, vi x7)]) i187_173 m187 (by decide) (fun v8 => (rfl : xst1 [(0, .ref 77), (1, vi x1), (2, vi x2), (3, vi x3), (5, vi x5), (7, vi x7)] 6 (vi v8) = [(6, vi v8), (0, .ref 77), (1, vi x1), (2, vi x2), (3, vi x3), (5, vi x5), (7, vi x7)])) rfl (fun v8 => ?_)
  refine vInc 178 (fun v9 => [(7, vi v9), (6, vi v8), (0, .ref 77), (1, vi x1), (2, vi x2), (3, vi x3), (5, vi x5)]) i187_175 m187 (by decide) rfl (fun _ => rfl) rfl (fun v9 => ?_)
  refine vGo 130 i187_178 rfl ?_
  exact fun hD => tLc [(0, .ref 77), (1, vi x1), (2, vi x2), (3, vi x3), (5, vi x5), (6, vi v8), (7, vi v9)] (xNdk [0, 1, 2, 3, 5, 6, 7] rfl (by decide)) (xNdk [7, 6, 0, 1, 2, 3, 5] rfl (by decide)) ⟨rfl, rfl, rfl, rfl, rfl, rfl, rfl, trivial⟩ (hk130 s x1 x2 x3 x5 v8 v9 hD)
def d_x8_tells_168 (N : Nat) (k130 : St → Int → Int → Int → Int → Int → Int → Option Rs) (s : St) (x1 : Int) (x2 : Int) (x3 : Int) (x5 : Int) (x7 : Int) (z0 : Int) : Option Rs :=
  d_x8_tells_169 N k130 s x1 x2 x3 x5 x7 0 z0
set_option maxHeartbeats 4000000 in
set_option maxRecDepth 100000 in
theorem c_x8_tells_168 {sc : xS} {d : Nat} {R : Rs} (N : Nat)  (hd : 553 ≤ d) (k130 : St → Int → Int → Int → Int → Int → Int → Option Rs) (hk130 : ∀ (s : St) (x1 : Int) (x2 : Int) (x3 : Int) (x5 : Int) (x6 : Int) (x7 : Int), k130 s x1 x2 x3 x5 x6 x7 = some R → vT sc d 187 130 [(0, .ref 77), (1, vi x1), (2, vi x2), (3, vi x3), (5, vi x5), (6, vi x6), (7, vi x7)] [] s (fun r => r = qI R))  (s : St) (x1 : Int) (x2 : Int) (x3 : Int) (x5 : Int) (x7 : Int) (z0 : Int) : d_x8_tells_168 N k130 s x1 x2 x3 x5 x7 z0 = some R → vT sc d 187 168 [(0, .ref 77), (1, vi x1), (2, vi x2), (3, vi x3), (5, vi x5), (7, vi x7)] [vi z0] s (fun r => r = qI R) := by
  obtain ⟨d, rfl⟩ : ∃ d', d = d' + 1 := ⟨d - 1, by omega⟩
  unfold d_x8_tells_168
  refine vK 169 i187_168 rfl ?_
  exact fun hD => c_x8_tells_169 N  hd k130 hk130 s x1 x2 x3 x5 x7 0 z0 hD
def d_x8_tells_130 (N : Nat)  (k130 : St → Int → Int → Int → Int → Int → Int → Option Rs) (s : St) (x1 : Int) (x2 : Int) (x3 : Int) (x5 : Int) (x6 : Int) (x7 : Int) : Option Rs :=
  (if (w32 x7) < 8 then (if (w32 x3) = 0 then if 0 ≤ (w32 x7) ∧ (w32 x7) < ((8 : Nat) : Int) then (if 0 < (w32 (s 78 (Int.toNat (w32 x7)))) then bI (d_x8_isSo N  s x1 x7 0) fun s10 v11 => (if (w32 v11) = 0 then d_x8_tells_168 N k130 s10 x1 x2 x3 x5 x7 x6 else d_x8_tells_169 N k130 s10 x1 x2 x3 x5 x7 1 x6) else d_x8_tells_168 N k130 s x1 x2 x3 x5 x7 x6) else none else d_x8_tells_181 N  s x1 x2 x3 x5 x6) else d_x8_tells_181 N  s x1 x2 x3 x5 x6)
def d_x8_tells_130L (N : Nat)  : Nat → St → Int → Int → Int → Int → Int → Int → Option Rs
  | 0 => fun _ _ _ _ _ _ _ => none
  | n + 1 => d_x8_tells_130 N  (d_x8_tells_130L N  n)
set_option maxHeartbeats 4000000 in
set_option maxRecDepth 100000 in
theorem c_x8_tells_130 {sc : xS} {d : Nat} {R : Rs} (N : Nat)  (hd : 553 ≤ d)   (k130 : St → Int → Int → Int → Int → Int → Int → Option Rs) (hk130 : ∀ (s : St) (x1 : Int) (x2 : Int) (x3 : Int) (x5 : Int) (x6 : Int) (x7 : Int), k130 s x1 x2 x3 x5 x6 x7 = some R → vT sc d 187 130 [(0, .ref 77), (1, vi x1), (2, vi x2), (3, vi x3), (5, vi x5), (6, vi x6), (7, vi x7)] [] s (fun r => r = qI R)) (s : St) (x1 : Int) (x2 : Int) (x3 : Int) (x5 : Int) (x6 : Int) (x7 : Int) : d_x8_tells_130 N  k130 s x1 x2 x3 x5 x6 x7 = some R → vT sc d 187 130 [(0, .ref 77), (1, vi x1), (2, vi x2), (3, vi x3), (5, vi x5), (6, vi x6), (7, vi x7)] [] s (fun r => r = qI R) := by
  obtain ⟨d, rfl⟩ : ∃ d', d = d' + 1 := ⟨d - 1, by omega⟩
  unfold d_x8_tells_130
  refine vLi 132 i187_130 rfl rfl ?_
  refine vKb 134 i187_132 (by decide) rfl ?_
  refine vCge 181 137 rfl (show w32 8 = 8 from rfl) i187_134 rfl rfl ?_ ?_
  · exact fun hD => tLc [(0, .ref 77), (1, vi x1), (2, vi x2), (3, vi x3), (5, vi x5), (6, vi x6)] (xNdk [0, 1, 2, 3, 5, 6] rfl (by decide)) (xNdk [0, 1, 2, 3, 5, 6, 7] rfl (by decide)) ⟨rfl, rfl, rfl, rfl, rfl, rfl, trivial⟩ (c_x8_tells_181 N  hd  s x1 x2 x3 x5 x6 hD)
  · refine vLin 138 i187_137 rfl rfl ?_
    refine vZne 181 141 rfl i187_138 rfl rfl ?_ ?_
    · exact fun hD => tLc [(0, .ref 77), (1, vi x1), (2, vi x2), (3, vi x3), (5, vi x5), (6, vi x6)] (xNdk [0, 1, 2, 3, 5, 6] rfl (by decide)) (xNdk [0, 1, 2, 3, 5, 6, 7] rfl (by decide)) ⟨rfl, rfl, rfl, rfl, rfl, rfl, trivial⟩ (c_x8_tells_181 N  hd  s x1 x2 x3 x5 x6 hD)
    · refine vLi 143 i187_141 rfl rfl ?_
      refine vLan 144 i187_143 rfl rfl ?_
      refine vGetC 147 i187_144 f187_13 sh_77 rfl rfl ?_
      refine vLi 149 i187_147 rfl rfl ?_
      refine vIal 150 rfl i187_149 sh_78 rfl ?_
      refine vZle 168 153 rfl i187_150 rfl rfl ?_ ?_
      · exact fun hD => tLc [(0, .ref 77), (1, vi x1), (2, vi x2), (3, vi x3), (5, vi x5), (7, vi x7)] (xNdk [0, 1, 2, 3, 5, 7] rfl (by decide)) (xNdk [0, 1, 2, 3, 5, 6, 7] rfl (by decide)) ⟨rfl, rfl, rfl, rfl, rfl, rfl, trivial⟩ (c_x8_tells_168 N  hd k130 hk130 s x1 x2 x3 x5 x7 x6 hD)
      · refine vLan 154 i187_153 rfl rfl ?_
        refine vLin 155 i187_154 rfl rfl ?_
        refine vLi 157 i187_155 rfl rfl ?_
        refine vK 158 i187_157 rfl ?_
        refine vCallI 161 [.ref 77, vi x1, vi x7, vi 0] [vi x6] [(0, .ref 77), (1, vi x1), (2, vi x7), (3, vi 0)] i187_158 rfl (xlk0 l187_412) (Or.inl rfl) m152 rfl rfl (Nat.le_of_ble_eq_true rfl) (Nat.le_of_ble_eq_true rfl) (Nat.le_of_ble_eq_true rfl) (xh0 sh_77 (by decide)) rfl rfl (fun R1 => c_x8_isSo N   (by omega) s x1 x7 0) (fun s10 v11 => ?_)
        refine vZeq 168 164 rfl i187_161 rfl rfl ?_ ?_
        · exact fun hD => tLc [(0, .ref 77), (1, vi x1), (2, vi x2), (3, vi x3), (5, vi x5), (7, vi x7)] (xNdk [0, 1, 2, 3, 5, 7] rfl (by decide)) (xNdk [0, 1, 2, 3, 5, 6, 7] rfl (by decide)) ⟨rfl, rfl, rfl, rfl, rfl, rfl, trivial⟩ (c_x8_tells_168 N  hd k130 hk130 s10 x1 x2 x3 x5 x7 x6 hD)
        · refine vK 165 i187_164 rfl ?_
          refine vGo 169 i187_165 rfl ?_
          exact fun hD => tLc [(0, .ref 77), (1, vi x1), (2, vi x2), (3, vi x3), (5, vi x5), (7, vi x7)] (xNdk [0, 1, 2, 3, 5, 7] rfl (by decide)) (xNdk [0, 1, 2, 3, 5, 6, 7] rfl (by decide)) ⟨rfl, rfl, rfl, rfl, rfl, rfl, trivial⟩ (c_x8_tells_169 N  hd k130 hk130 s10 x1 x2 x3 x5 x7 1 x6 hD)
theorem c_x8_tells_130L {sc : xS} {d : Nat} {R : Rs} (N : Nat)  (hd : 553 ≤ d)   : ∀ (n : Nat) (s : St) (x1 : Int) (x2 : Int) (x3 : Int) (x5 : Int) (x6 : Int) (x7 : Int), d_x8_tells_130L N  n s x1 x2 x3 x5 x6 x7 = some R → vT sc d 187 130 [(0, .ref 77), (1, vi x1), (2, vi x2), (3, vi x3), (5, vi x5), (6, vi x6), (7, vi x7)] [] s (fun r => r = qI R) := by
  intro n
  induction n with
  | zero => intro s x1 x2 x3 x5 x6 x7 hD; cases hD
  | succ n ih => intro s x1 x2 x3 x5 x6 x7 hD; exact c_x8_tells_130 N  hd  _ ih s x1 x2 x3 x5 x6 x7 hD
def d_x8_tells_98 (N : Nat)  (s : St) (x1 : Int) (x2 : Int) (x3 : Int) (x5 : Int) : Option Rs :=
  if 0 ≤ (w32 x1) ∧ (w32 x1) < ((4 : Nat) : Int) then (if (w32 (s 126 (Int.toNat (w32 x1)))) = 0 then some (s, (-11)) else if 0 ≤ (w32 x1) ∧ (w32 x1) < ((4 : Nat) : Int) then (if 16 < (w32 (s 128 (Int.toNat (w32 x1)))) then some (s, (-2)) else d_x8_tells_130L N  N s x1 x2 x3 x5 0 0) else none) else none
set_option maxHeartbeats 4000000 in
set_option maxRecDepth 100000 in
theorem c_x8_tells_98 {sc : xS} {d : Nat} {R : Rs} (N : Nat)  (hd : 553 ≤ d)   (s : St) (x1 : Int) (x2 : Int) (x3 : Int) (x5 : Int) : d_x8_tells_98 N  s x1 x2 x3 x5 = some R → vT sc d 187 98 [(0, .ref 77), (1, vi x1), (2, vi x2), (3, vi x3), (5, vi x5)] [] s (fun r => r = qI R) := by
  obtain ⟨d, rfl⟩ : ∃ d', d = d' + 1 := ⟨d - 1, by omega⟩
  unfold d_x8_tells_98
  refine vLan 99 i187_98 rfl rfl ?_
  refine vGetC 102 i187_99 f187_163 sh_77 rfl rfl ?_
  refine vLin 103 i187_102 rfl rfl ?_
  refine vZal 104 rfl i187_103 sh_126 rfl ?_
  refine vZne 110 107 rfl i187_104 rfl rfl ?_ ?_
  · refine vLan 111 i187_110 rfl rfl ?_
    refine vGetC 114 i187_111 f187_169 sh_77 rfl rfl ?_
    refine vLin 115 i187_114 rfl rfl ?_
    refine vIal 116 rfl i187_115 sh_128 rfl ?_
    refine vKb 118 i187_116 (by decide) rfl ?_
    refine vCle 124 121 rfl (show w32 16 = 16 from rfl) i187_118 rfl rfl ?_ ?_
    · refine vK 125 i187_124 rfl ?_
      refine vSi0 127 [(6, vi 0), (0, .ref 77), (1, vi x1), (2, vi x2), (3, vi x3), (5, vi x5)] i187_125 m187 (by decide) rfl rfl ?_
      refine vK 128 i187_127 rfl ?_
      refine vSi0 130 [(7, vi 0), (6, vi 0), (0, .ref 77), (1, vi x1), (2, vi x2), (3, vi x3), (5, vi x5)] i187_128 m187 (by decide) rfl rfl ?_
      exact fun hD => tLc [(0, .ref 77), (1, vi x1), (2, vi x2), (3, vi x3), (5, vi x5), (6, vi 0), (7, vi 0)] (xNdk [0, 1, 2, 3, 5, 6, 7] rfl (by decide)) (xNdk [7, 6, 0, 1, 2, 3, 5] rfl (by decide)) ⟨rfl, rfl, rfl, rfl, rfl, rfl, rfl, trivial⟩ (c_x8_tells_130L N  hd  N s x1 x2 x3 x5 0 0 hD)
    · refine vKb 123 i187_121 (by decide) rfl ?_
      exact vRi i187_123 m187 rfl
  · refine vKb 109 i187_107 (by decide) rfl ?_
    exact vRi i187_109 m187 rfl
def d_x8_tells_78 (N : Nat)  (s : St) (x1 : Int) (x2 : Int) (x3 : Int) (x5 : Int) : Option Rs :=
  (if (w32 x3) = 0 then d_x8_tells_98 N  s x1 x2 x3 x5 else if 0 ≤ (w32 x5) ∧ (w32 x5) < ((192 : Nat) : Int) then bI (d_x8_isNumbered N  s (s 79 (Int.toNat (w32 x5)))) fun s12 v13 => (if (w32 v13) = 0 then some (s12, (-13)) else d_x8_tells_98 N  s12 x1 x2 x3 x5) else none)
set_option maxHeartbeats 4000000 in
set_option maxRecDepth 100000 in
theorem c_x8_tells_78 {sc : xS} {d : Nat} {R : Rs} (N : Nat)  (hd : 553 ≤ d)   (s : St) (x1 : Int) (x2 : Int) (x3 : Int) (x5 : Int) : d_x8_tells_78 N  s x1 x2 x3 x5 = some R → vT sc d 187 78 [(0, .ref 77), (1, vi x1), (2, vi x2), (3, vi x3), (5, vi x5)] [] s (fun r => r = qI R) := by
  obtain ⟨d, rfl⟩ : ∃ d', d = d' + 1 := ⟨d - 1, by omega⟩
  unfold d_x8_tells_78
  refine vLin 79 i187_78 rfl rfl ?_
  refine vZeq 98 82 rfl i187_79 rfl rfl ?_ ?_
  · exact fun hD => c_x8_tells_98 N  hd  s x1 x2 x3 x5 hD
  · refine vLan 83 i187_82 rfl rfl ?_
    refine vGetC 86 i187_83 f187_17 sh_77 rfl rfl ?_
    refine vLi 88 i187_86 rfl rfl ?_
    refine vIal 89 rfl i187_88 sh_79 rfl ?_
    refine vCallI 92 [vi (s 79 (Int.toNat (w32 x5)))] [] [(0, vi (s 79 (Int.toNat (w32 x5))))] i187_89 rfl (xlk1 l187_282) (Or.inr (Or.inl rfl)) m147 rfl rfl (Nat.le_of_ble_eq_true rfl) (Nat.le_of_ble_eq_true rfl) (Nat.le_of_ble_eq_true rfl) rfl rfl rfl (fun R1 => c_x8_isNumbered N   (by omega) s (s 79 (Int.toNat (w32 x5)))) (fun s12 v13 => ?_)
    refine vZne 98 95 rfl i187_92 rfl rfl ?_ ?_
    · exact fun hD => c_x8_tells_98 N  hd  s12 x1 x2 x3 x5 hD
    · refine vKb 97 i187_95 (by decide) rfl ?_
      exact vRi i187_97 m187 rfl
def d_x8_tells_33 (N : Nat)  (s : St) (x1 : Int) (x2 : Int) (x3 : Int) : Option Rs :=
  if 0 ≤ (w32 x2) ∧ (w32 x2) < ((8 : Nat) : Int) then (if (w32 (s 78 (Int.toNat (w32 x2)))) = 0 then some (s, (-3)) else if 4 = 0 then none else bd ((Int.tdiv (w32 x3) 4) - 1) fun v14 => bd ((24 * x2) + v14) fun v15 => (if (w32 x3) = 0 then d_x8_tells_78 N  s x1 x2 x3 v15 else bI (d_x8_isPart N  s x2 v14) fun s16 v17 => (if (w32 v17) = 0 then some (s16, (-12)) else d_x8_tells_78 N  s16 x1 x2 x3 v15))) else none
set_option maxHeartbeats 4000000 in
set_option maxRecDepth 100000 in
theorem c_x8_tells_33 {sc : xS} {d : Nat} {R : Rs} (N : Nat)  (hd : 553 ≤ d)   (s : St) (x1 : Int) (x2 : Int) (x3 : Int) : d_x8_tells_33 N  s x1 x2 x3 = some R → vT sc d 187 33 [(0, .ref 77), (1, vi x1), (2, vi x2), (3, vi x3)] [] s (fun r => r = qI R) := by
  obtain ⟨d, rfl⟩ : ∃ d', d = d' + 1 := ⟨d - 1, by omega⟩
  unfold d_x8_tells_33
  refine vLan 34 i187_33 rfl rfl ?_
  refine vGetC 37 i187_34 f187_13 sh_77 rfl rfl ?_
  refine vLin 38 i187_37 rfl rfl ?_
  refine vIal 39 rfl i187_38 sh_78 rfl ?_
  refine vZne 45 42 rfl i187_39 rfl rfl ?_ ?_
  · refine vLin 46 i187_45 rfl rfl ?_
    refine vK 47 i187_46 rfl ?_
    refine vIdiv 48 rfl (show w32 4 = 4 from rfl) i187_47 rfl ?_
    refine vK 49 i187_48 rfl ?_
    refine vIsub 50 i187_49 rfl ?_
    refine vSi 52 (fun v14 => [(4, vi v14), (0, .ref 77), (1, vi x1), (2, vi x2), (3, vi x3)]) i187_50 m187 (by decide) (fun v14 => (rfl : xst1 [(0, .ref 77), (1, vi x1), (2, vi x2), (3, vi x3)] 4 (vi v14) = [(4, vi v14), (0, .ref 77), (1, vi x1), (2, vi x2), (3, vi x3)])) rfl (fun v14 => ?_)
    refine vKb 54 i187_52 (by decide) rfl ?_
    refine vLin 55 i187_54 rfl rfl ?_
    refine vImul 56 i187_55 rfl ?_
    refine vLi 58 i187_56 rfl rfl ?_
    refine vIadd 59 i187_58 rfl ?_
    refine vSi 61 (fun v15 => [(5, vi v15), (4, vi v14), (0, .ref 77), (1, vi x1), (2, vi x2), (3, vi x3)]) i187_59 m187 (by decide) (fun v15 => (rfl : xst1 [(4, vi v14), (0, .ref 77), (1, vi x1), (2, vi x2), (3, vi x3)] 5 (vi v15) = [(5, vi v15), (4, vi v14), (0, .ref 77), (1, vi x1), (2, vi x2), (3, vi x3)])) rfl (fun v15 => ?_)
    refine vLin 62 i187_61 rfl rfl ?_
    refine vZeq 78 65 rfl i187_62 rfl rfl ?_ ?_
    · exact fun hD => tLc [(0, .ref 77), (1, vi x1), (2, vi x2), (3, vi x3), (5, vi v15)] (xNdk [0, 1, 2, 3, 5] rfl (by decide)) (xNdk [5, 4, 0, 1, 2, 3] rfl (by decide)) ⟨rfl, rfl, rfl, rfl, rfl, trivial⟩ (c_x8_tells_78 N  hd  s x1 x2 x3 v15 hD)
    · refine vLan 66 i187_65 rfl rfl ?_
      refine vLin 67 i187_66 rfl rfl ?_
      refine vLi 69 i187_67 rfl rfl ?_
      refine vCallI 72 [.ref 77, vi x2, vi v14] [] [(0, .ref 77), (1, vi x2), (2, vi v14)] i187_69 rfl (xlk0 l187_276) (Or.inl rfl) m148 rfl rfl (Nat.le_of_ble_eq_true rfl) (Nat.le_of_ble_eq_true rfl) (Nat.le_of_ble_eq_true rfl) (xh0 sh_77 (by decide)) rfl rfl (fun R1 => c_x8_isPart N   (by omega) s x2 v14) (fun s16 v17 => ?_)
      refine vZne 78 75 rfl i187_72 rfl rfl ?_ ?_
      · exact fun hD => tLc [(0, .ref 77), (1, vi x1), (2, vi x2), (3, vi x3), (5, vi v15)] (xNdk [0, 1, 2, 3, 5] rfl (by decide)) (xNdk [5, 4, 0, 1, 2, 3] rfl (by decide)) ⟨rfl, rfl, rfl, rfl, rfl, trivial⟩ (c_x8_tells_78 N  hd  s16 x1 x2 x3 v15 hD)
      · refine vKb 77 i187_75 (by decide) rfl ?_
        exact vRi i187_77 m187 rfl
  · refine vKb 44 i187_42 (by decide) rfl ?_
    exact vRi i187_44 m187 rfl
def d_x8_tells (N : Nat)  (s : St) (a0 : Int) (a1 : Int) (a2 : Int) : Option Rs :=
  bI (d_x8_isSheet N  s a0) fun s18 v19 => (if (w32 v19) = 0 then some (s18, (-2)) else bI (d_x8_isStream N  s18 a1) fun s20 v21 => (if (w32 v21) = 0 then some (s20, (-2)) else (if (w32 a2) = 0 then d_x8_tells_33 N  s20 a0 a1 a2 else (if (w32 a2) < 4 then some (s20, (-2)) else if 4 = 0 then none else (if 1 < (w32 (Int.tmod (w32 a2) 4)) then some (s20, (-2)) else d_x8_tells_33 N  s20 a0 a1 a2)))))
set_option maxHeartbeats 4000000 in
set_option maxRecDepth 100000 in
theorem c_x8_tells {sc : xS} {d : Nat} {R : Rs} (N : Nat)  (hd : 553 ≤ d)   (s : St) (a0 : Int) (a1 : Int) (a2 : Int) : d_x8_tells N  s a0 a1 a2 = some R → vT sc d 187 0 [(0, .ref 77), (1, vi a0), (2, vi a1), (3, vi a2)] [] s (fun r => r = qI R) := by
  obtain ⟨d, rfl⟩ : ∃ d', d = d' + 1 := ⟨d - 1, by omega⟩
  unfold d_x8_tells
  refine vLin 1 i187_0 rfl rfl ?_
  refine vCallI 4 [vi a0] [] [(0, vi a0)] i187_1 rfl (xlk1 l187_403) (Or.inr (Or.inl rfl)) m149 rfl rfl (Nat.le_of_ble_eq_true rfl) (Nat.le_of_ble_eq_true rfl) (Nat.le_of_ble_eq_true rfl) rfl rfl rfl (fun R1 => c_x8_isSheet N   (by omega) s a0) (fun s18 v19 => ?_)
  refine vZeq 30 7 rfl i187_4 rfl rfl ?_ ?_
  · refine vKb 32 i187_30 (by decide) rfl ?_
    exact vRi i187_32 m187 rfl
  · refine vLin 8 i187_7 rfl rfl ?_
    refine vCallI 11 [vi a1] [] [(0, vi a1)] i187_8 rfl (xlk1 l187_266) (Or.inr (Or.inl rfl)) m153 rfl rfl (Nat.le_of_ble_eq_true rfl) (Nat.le_of_ble_eq_true rfl) (Nat.le_of_ble_eq_true rfl) rfl rfl rfl (fun R1 => c_x8_isStream N   (by omega) s18 a1) (fun s20 v21 => ?_)
    refine vZeq 30 14 rfl i187_11 rfl rfl ?_ ?_
    · refine vKb 32 i187_30 (by decide) rfl ?_
      exact vRi i187_32 m187 rfl
    · refine vLin 15 i187_14 rfl rfl ?_
      refine vZeq 33 18 rfl i187_15 rfl rfl ?_ ?_
      · exact fun hD => c_x8_tells_33 N  hd  s20 a0 a1 a2 hD
      · refine vLin 19 i187_18 rfl rfl ?_
        refine vK 20 i187_19 rfl ?_
        refine vClt 30 23 rfl (show w32 4 = 4 from rfl) i187_20 rfl rfl ?_ ?_
        · refine vKb 32 i187_30 (by decide) rfl ?_
          exact vRi i187_32 m187 rfl
        · refine vLin 24 i187_23 rfl rfl ?_
          refine vK 25 i187_24 rfl ?_
          refine vIrem 26 rfl (show w32 4 = 4 from rfl) i187_25 rfl ?_
          refine vK 27 i187_26 rfl ?_
          refine vCle 33 30 rfl (show w32 1 = 1 from rfl) i187_27 rfl rfl ?_ ?_
          · exact fun hD => c_x8_tells_33 N  hd  s20 a0 a1 a2 hD
          · refine vKb 32 i187_30 (by decide) rfl ?_
            exact vRi i187_32 m187 rfl
theorem f136_13 : xFld xg 136 13 = some (7, 1) := by decide +kernel
theorem i136_25 : xIns xg 136 25 = some (.iadd) := by decide +kernel
theorem i136_26 : xIns xg 136 26 = some (.istore_n 1) := by decide +kernel
theorem m136 : (xMet xg 136).2.2 = (3, (some .int)) := by decide +kernel
theorem i136_27 : xIns xg 136 27 = some (.iinc 2 1) := by decide +kernel
theorem i136_30 : xIns xg 136 30 = some (.goto (-26)) := by decide +kernel
theorem i136_4 : xIns xg 136 4 = some (.iload_n 2) := by decide +kernel
theorem i136_5 : xIns xg 136 5 = some (.bipush 8) := by decide +kernel
theorem i136_7 : xIns xg 136 7 = some (.if_icmp .ge 26) := by decide +kernel
theorem i136_33 : xIns xg 136 33 = some (.iload_n 1) := by decide +kernel
theorem i136_34 : xIns xg 136 34 = some (.ireturn) := by decide +kernel
theorem i136_10 : xIns xg 136 10 = some (.iload_n 1) := by decide +kernel
theorem i136_11 : xIns xg 136 11 = some (.aload_n 0) := by decide +kernel
theorem i136_12 : xIns xg 136 12 = some (.getfield 13) := by decide +kernel
theorem i136_15 : xIns xg 136 15 = some (.iload_n 2) := by decide +kernel
theorem i136_16 : xIns xg 136 16 = some (.iaload) := by decide +kernel
theorem i136_17 : xIns xg 136 17 = some (.ifCond .le 7) := by decide +kernel
theorem i136_24 : xIns xg 136 24 = some (.iconst 0) := by decide +kernel
theorem i136_20 : xIns xg 136 20 = some (.iconst 1) := by decide +kernel
theorem i136_21 : xIns xg 136 21 = some (.goto 4) := by decide +kernel
theorem i136_0 : xIns xg 136 0 = some (.iconst 0) := by decide +kernel
theorem i136_1 : xIns xg 136 1 = some (.istore_n 1) := by decide +kernel
theorem i136_2 : xIns xg 136 2 = some (.iconst 0) := by decide +kernel
theorem i136_3 : xIns xg 136 3 = some (.istore_n 2) := by decide +kernel
def d_x8_full_25 (N : Nat) (k4 : St → Int → Int → Option Rs) (s : St) (x2 : Int) (z0 : Int) (z1 : Int) : Option Rs :=
  bd (z1 + z0) fun v1 => bd (x2 + 1) fun v2 => k4 s v1 v2
set_option maxHeartbeats 4000000 in
set_option maxRecDepth 100000 in
theorem c_x8_full_25 {sc : xS} {d : Nat} {R : Rs} (N : Nat)  (hd : 0 ≤ d) (k4 : St → Int → Int → Option Rs) (hk4 : ∀ (s : St) (x1 : Int) (x2 : Int), k4 s x1 x2 = some R → vT sc d 136 4 [(0, .ref 77), (1, vi x1), (2, vi x2)] [] s (fun r => r = qI R))  (s : St) (x2 : Int) (z0 : Int) (z1 : Int) : d_x8_full_25 N k4 s x2 z0 z1 = some R → vT sc d 136 25 [(0, .ref 77), (2, vi x2)] [vi z0, vi z1] s (fun r => r = qI R) := by
  unfold d_x8_full_25
  refine vIadd 26 i136_25 rfl ?_
  refine vSin 27 (fun v1 => [(1, vi v1), (0, .ref 77), (2, vi x2)]) i136_26 m136 (by decide) (fun v1 => (rfl : xst1 [(0, .ref 77), (2, vi x2)] 1 (vi v1) = [(1, vi v1), (0, .ref 77), (2, vi x2)])) rfl (fun v1 => ?_)
  refine vInc 30 (fun v2 => [(2, vi v2), (1, vi v1), (0, .ref 77)]) i136_27 m136 (by decide) rfl (fun _ => rfl) rfl (fun v2 => ?_)
  refine vGo 4 i136_30 rfl ?_
  exact fun hD => tLc [(0, .ref 77), (1, vi v1), (2, vi v2)] (xNdk [0, 1, 2] rfl (by decide)) (xNdk [2, 1, 0] rfl (by decide)) ⟨rfl, rfl, rfl, trivial⟩ (hk4 s v1 v2 hD)
def d_x8_full_4 (N : Nat)  (k4 : St → Int → Int → Option Rs) (s : St) (x1 : Int) (x2 : Int) : Option Rs :=
  (if (w32 x2) < 8 then if 0 ≤ (w32 x2) ∧ (w32 x2) < ((8 : Nat) : Int) then (if 0 < (w32 (s 78 (Int.toNat (w32 x2)))) then d_x8_full_25 N k4 s x2 1 x1 else d_x8_full_25 N k4 s x2 0 x1) else none else some (s, x1))
def d_x8_full_4L (N : Nat)  : Nat → St → Int → Int → Option Rs
  | 0 => fun _ _ _ => none
  | n + 1 => d_x8_full_4 N  (d_x8_full_4L N  n)
set_option maxHeartbeats 4000000 in
set_option maxRecDepth 100000 in
theorem c_x8_full_4 {sc : xS} {d : Nat} {R : Rs} (N : Nat)  (hd : 0 ≤ d)   (k4 : St → Int → Int → Option Rs) (hk4 : ∀ (s : St) (x1 : Int) (x2 : Int), k4 s x1 x2 = some R → vT sc d 136 4 [(0, .ref 77), (1, vi x1), (2, vi x2)] [] s (fun r => r = qI R)) (s : St) (x1 : Int) (x2 : Int) : d_x8_full_4 N  k4 s x1 x2 = some R → vT sc d 136 4 [(0, .ref 77), (1, vi x1), (2, vi x2)] [] s (fun r => r = qI R) := by
  unfold d_x8_full_4
  refine vLin 5 i136_4 rfl rfl ?_
  refine vKb 7 i136_5 (by decide) rfl ?_
  refine vCge 33 10 rfl (show w32 8 = 8 from rfl) i136_7 rfl rfl ?_ ?_
  · refine vLin 34 i136_33 rfl rfl ?_
    exact vRi i136_34 m136 rfl
  · refine vLin 11 i136_10 rfl rfl ?_
    refine vLan 12 i136_11 rfl rfl ?_
    refine vGetC 15 i136_12 f136_13 sh_77 rfl rfl ?_
    refine vLin 16 i136_15 rfl rfl ?_
    refine vIal 17 rfl i136_16 sh_78 rfl ?_
    refine vZle 24 20 rfl i136_17 rfl rfl ?_ ?_
    · refine vK 25 i136_24 rfl ?_
      exact fun hD => tLc [(0, .ref 77), (2, vi x2)] (xNdk [0, 2] rfl (by decide)) (xNdk [0, 1, 2] rfl (by decide)) ⟨rfl, rfl, trivial⟩ (c_x8_full_25 N  hd k4 hk4 s x2 0 x1 hD)
    · refine vK 21 i136_20 rfl ?_
      refine vGo 25 i136_21 rfl ?_
      exact fun hD => tLc [(0, .ref 77), (2, vi x2)] (xNdk [0, 2] rfl (by decide)) (xNdk [0, 1, 2] rfl (by decide)) ⟨rfl, rfl, trivial⟩ (c_x8_full_25 N  hd k4 hk4 s x2 1 x1 hD)
theorem c_x8_full_4L {sc : xS} {d : Nat} {R : Rs} (N : Nat)  (hd : 0 ≤ d)   : ∀ (n : Nat) (s : St) (x1 : Int) (x2 : Int), d_x8_full_4L N  n s x1 x2 = some R → vT sc d 136 4 [(0, .ref 77), (1, vi x1), (2, vi x2)] [] s (fun r => r = qI R) := by
  intro n
  induction n with
  | zero => intro s x1 x2 hD; cases hD
  | succ n ih => intro s x1 x2 hD; exact c_x8_full_4 N  hd  _ ih s x1 x2 hD
def d_x8_full (N : Nat)  (s : St)  : Option Rs :=
  d_x8_full_4L N  N s 0 0
set_option maxHeartbeats 4000000 in
set_option maxRecDepth 100000 in
theorem c_x8_full {sc : xS} {d : Nat} {R : Rs} (N : Nat)  (hd : 0 ≤ d)   (s : St)  : d_x8_full N  s  = some R → vT sc d 136 0 [(0, .ref 77)] [] s (fun r => r = qI R) := by
  unfold d_x8_full
  refine vK 1 i136_0 rfl ?_
  refine vSin0 2 [(1, vi 0), (0, .ref 77)] i136_1 m136 (by decide) rfl rfl ?_
  refine vK 3 i136_2 rfl ?_
  refine vSin0 4 [(2, vi 0), (1, vi 0), (0, .ref 77)] i136_3 m136 (by decide) rfl rfl ?_
  exact fun hD => tLc [(0, .ref 77), (1, vi 0), (2, vi 0)] (xNdk [0, 1, 2] rfl (by decide)) (xNdk [2, 1, 0] rfl (by decide)) ⟨rfl, rfl, rfl, trivial⟩ (c_x8_full_4L N  hd  N s 0 0 hD)
theorem f141_39 : xFld xg 141 39 = some (7, 9) := by decide +kernel
theorem f141_154 : xFld xg 141 154 = some (7, 60) := by decide +kernel
theorem f141_58 : xFld xg 141 58 = some (7, 15) := by decide +kernel
theorem f141_157 : xFld xg 141 157 = some (7, 61) := by decide +kernel
theorem f141_61 : xFld xg 141 61 = some (7, 16) := by decide +kernel
theorem f141_160 : xFld xg 141 160 = some (7, 62) := by decide +kernel
theorem f141_64 : xFld xg 141 64 = some (7, 17) := by decide +kernel
theorem f141_139 : xFld xg 141 139 = some (7, 55) := by decide +kernel
theorem f141_36 : xFld xg 141 36 = some (7, 8) := by decide +kernel
theorem f141_121 : xFld xg 141 121 = some (7, 49) := by decide +kernel
theorem f141_17 : xFld xg 141 17 = some (7, 2) := by decide +kernel
theorem f141_124 : xFld xg 141 124 = some (7, 50) := by decide +kernel
theorem f141_20 : xFld xg 141 20 = some (7, 3) := by decide +kernel
theorem f141_127 : xFld xg 141 127 = some (7, 51) := by decide +kernel
theorem f141_23 : xFld xg 141 23 = some (7, 4) := by decide +kernel
theorem f141_130 : xFld xg 141 130 = some (7, 52) := by decide +kernel
theorem f141_26 : xFld xg 141 26 = some (7, 5) := by decide +kernel
theorem f141_133 : xFld xg 141 133 = some (7, 53) := by decide +kernel
theorem f141_30 : xFld xg 141 30 = some (7, 6) := by decide +kernel
theorem f141_136 : xFld xg 141 136 = some (7, 54) := by decide +kernel
theorem f141_33 : xFld xg 141 33 = some (7, 7) := by decide +kernel
theorem f141_142 : xFld xg 141 142 = some (7, 56) := by decide +kernel
theorem f141_42 : xFld xg 141 42 = some (7, 10) := by decide +kernel
theorem f141_145 : xFld xg 141 145 = some (7, 57) := by decide +kernel
theorem f141_45 : xFld xg 141 45 = some (7, 11) := by decide +kernel
theorem f141_148 : xFld xg 141 148 = some (7, 58) := by decide +kernel
theorem f141_52 : xFld xg 141 52 = some (7, 13) := by decide +kernel
theorem f141_151 : xFld xg 141 151 = some (7, 59) := by decide +kernel
theorem f141_55 : xFld xg 141 55 = some (7, 14) := by decide +kernel
theorem f141_118 : xFld xg 141 118 = some (7, 48) := by decide +kernel
theorem f141_13 : xFld xg 141 13 = some (7, 1) := by decide +kernel
theorem i141_190 : xIns xg 141 190 = some (.iload_n 1) := by decide +kernel
theorem i141_191 : xIns xg 141 191 = some (.sipush 12288) := by decide +kernel
theorem i141_194 : xIns xg 141 194 = some (.if_icmp .ge 45) := by decide +kernel
theorem i141_239 : xIns xg 141 239 = some (.aload_n 0) := by decide +kernel
theorem i141_240 : xIns xg 141 240 = some (.aload_n 0) := by decide +kernel
theorem i141_241 : xIns xg 141 241 = some (.getfield 39) := by decide +kernel
theorem i141_244 : xIns xg 141 244 = some (.putfield 416) := by decide +kernel
theorem p141_416 : xPut xg 141 416 = some (7, 63, .int) := by decide +kernel
theorem i141_247 : xIns xg 141 247 = some (.aload_n 0) := by decide +kernel
theorem i141_248 : xIns xg 141 248 = some (.iconst 1) := by decide +kernel
theorem i141_249 : xIns xg 141 249 = some (.putfield 419) := by decide +kernel
theorem p141_419 : xPut xg 141 419 = some (7, 64, .boolean) := by decide +kernel
theorem i141_252 : xIns xg 141 252 = some (.aload_n 0) := by decide +kernel
theorem i141_253 : xIns xg 141 253 = some (.invokevirtual 422) := by decide +kernel
theorem i141_256 : xIns xg 141 256 = some (.ireturn) := by decide +kernel
theorem m141 : (xMet xg 141).2.2 = (2, (some .int)) := by decide +kernel
theorem i141_197 : xIns xg 141 197 = some (.aload_n 0) := by decide +kernel
theorem i141_198 : xIns xg 141 198 = some (.getfield 154) := by decide +kernel
theorem i141_201 : xIns xg 141 201 = some (.iload_n 1) := by decide +kernel
theorem i141_202 : xIns xg 141 202 = some (.aload_n 0) := by decide +kernel
theorem i141_203 : xIns xg 141 203 = some (.getfield 58) := by decide +kernel
theorem i141_206 : xIns xg 141 206 = some (.iload_n 1) := by decide +kernel
theorem i141_207 : xIns xg 141 207 = some (.iaload) := by decide +kernel
theorem i141_208 : xIns xg 141 208 = some (.iastore) := by decide +kernel
theorem i141_209 : xIns xg 141 209 = some (.aload_n 0) := by decide +kernel
theorem i141_210 : xIns xg 141 210 = some (.getfield 157) := by decide +kernel
theorem i141_213 : xIns xg 141 213 = some (.iload_n 1) := by decide +kernel
theorem i141_214 : xIns xg 141 214 = some (.aload_n 0) := by decide +kernel
theorem i141_215 : xIns xg 141 215 = some (.getfield 61) := by decide +kernel
theorem i141_218 : xIns xg 141 218 = some (.iload_n 1) := by decide +kernel
theorem i141_219 : xIns xg 141 219 = some (.laload) := by decide +kernel
theorem i141_220 : xIns xg 141 220 = some (.lastore) := by decide +kernel
theorem i141_221 : xIns xg 141 221 = some (.aload_n 0) := by decide +kernel
theorem i141_222 : xIns xg 141 222 = some (.getfield 160) := by decide +kernel
theorem i141_225 : xIns xg 141 225 = some (.iload_n 1) := by decide +kernel
theorem i141_226 : xIns xg 141 226 = some (.aload_n 0) := by decide +kernel
theorem i141_227 : xIns xg 141 227 = some (.getfield 64) := by decide +kernel
theorem i141_230 : xIns xg 141 230 = some (.iload_n 1) := by decide +kernel
theorem i141_231 : xIns xg 141 231 = some (.iaload) := by decide +kernel
theorem i141_232 : xIns xg 141 232 = some (.iastore) := by decide +kernel
theorem i141_233 : xIns xg 141 233 = some (.iinc 1 1) := by decide +kernel
theorem i141_236 : xIns xg 141 236 = some (.goto (-46)) := by decide +kernel
theorem i141_163 : xIns xg 141 163 = some (.iload_n 1) := by decide +kernel
theorem i141_164 : xIns xg 141 164 = some (.sipush 1536) := by decide +kernel
theorem i141_167 : xIns xg 141 167 = some (.if_icmp .ge 21) := by decide +kernel
theorem i141_188 : xIns xg 141 188 = some (.iconst 0) := by decide +kernel
theorem i141_189 : xIns xg 141 189 = some (.istore_n 1) := by decide +kernel
theorem i141_170 : xIns xg 141 170 = some (.aload_n 0) := by decide +kernel
theorem i141_171 : xIns xg 141 171 = some (.getfield 139) := by decide +kernel
theorem i141_174 : xIns xg 141 174 = some (.iload_n 1) := by decide +kernel
theorem i141_175 : xIns xg 141 175 = some (.aload_n 0) := by decide +kernel
theorem i141_176 : xIns xg 141 176 = some (.getfield 36) := by decide +kernel
theorem i141_179 : xIns xg 141 179 = some (.iload_n 1) := by decide +kernel
theorem i141_180 : xIns xg 141 180 = some (.laload) := by decide +kernel
theorem i141_181 : xIns xg 141 181 = some (.lastore) := by decide +kernel
theorem i141_182 : xIns xg 141 182 = some (.iinc 1 1) := by decide +kernel
theorem i141_185 : xIns xg 141 185 = some (.goto (-22)) := by decide +kernel
theorem i141_28 : xIns xg 141 28 = some (.iload_n 1) := by decide +kernel
theorem i141_29 : xIns xg 141 29 = some (.sipush 192) := by decide +kernel
theorem i141_32 : xIns xg 141 32 = some (.if_icmp .ge 129) := by decide +kernel
theorem i141_161 : xIns xg 141 161 = some (.iconst 0) := by decide +kernel
theorem i141_162 : xIns xg 141 162 = some (.istore_n 1) := by decide +kernel
theorem i141_35 : xIns xg 141 35 = some (.aload_n 0) := by decide +kernel
theorem i141_36 : xIns xg 141 36 = some (.getfield 121) := by decide +kernel
theorem i141_39 : xIns xg 141 39 = some (.iload_n 1) := by decide +kernel
theorem i141_40 : xIns xg 141 40 = some (.aload_n 0) := by decide +kernel
theorem i141_41 : xIns xg 141 41 = some (.getfield 17) := by decide +kernel
theorem i141_44 : xIns xg 141 44 = some (.iload_n 1) := by decide +kernel
theorem i141_45 : xIns xg 141 45 = some (.iaload) := by decide +kernel
theorem i141_46 : xIns xg 141 46 = some (.iastore) := by decide +kernel
theorem i141_47 : xIns xg 141 47 = some (.aload_n 0) := by decide +kernel
theorem i141_48 : xIns xg 141 48 = some (.getfield 124) := by decide +kernel
theorem i141_51 : xIns xg 141 51 = some (.iload_n 1) := by decide +kernel
theorem i141_52 : xIns xg 141 52 = some (.aload_n 0) := by decide +kernel
theorem i141_53 : xIns xg 141 53 = some (.getfield 20) := by decide +kernel
theorem i141_56 : xIns xg 141 56 = some (.iload_n 1) := by decide +kernel
theorem i141_57 : xIns xg 141 57 = some (.iaload) := by decide +kernel
theorem i141_58 : xIns xg 141 58 = some (.iastore) := by decide +kernel
theorem i141_59 : xIns xg 141 59 = some (.aload_n 0) := by decide +kernel
theorem i141_60 : xIns xg 141 60 = some (.getfield 127) := by decide +kernel
theorem i141_63 : xIns xg 141 63 = some (.iload_n 1) := by decide +kernel
theorem i141_64 : xIns xg 141 64 = some (.aload_n 0) := by decide +kernel
theorem i141_65 : xIns xg 141 65 = some (.getfield 23) := by decide +kernel
theorem i141_68 : xIns xg 141 68 = some (.iload_n 1) := by decide +kernel
theorem i141_69 : xIns xg 141 69 = some (.iaload) := by decide +kernel
theorem i141_70 : xIns xg 141 70 = some (.iastore) := by decide +kernel
theorem i141_71 : xIns xg 141 71 = some (.aload_n 0) := by decide +kernel
theorem i141_72 : xIns xg 141 72 = some (.getfield 130) := by decide +kernel
theorem i141_75 : xIns xg 141 75 = some (.iload_n 1) := by decide +kernel
theorem i141_76 : xIns xg 141 76 = some (.aload_n 0) := by decide +kernel
theorem i141_77 : xIns xg 141 77 = some (.getfield 26) := by decide +kernel
theorem i141_80 : xIns xg 141 80 = some (.iload_n 1) := by decide +kernel
theorem i141_81 : xIns xg 141 81 = some (.laload) := by decide +kernel
theorem i141_82 : xIns xg 141 82 = some (.lastore) := by decide +kernel
theorem i141_83 : xIns xg 141 83 = some (.aload_n 0) := by decide +kernel
theorem i141_84 : xIns xg 141 84 = some (.getfield 133) := by decide +kernel
theorem i141_87 : xIns xg 141 87 = some (.iload_n 1) := by decide +kernel
theorem i141_88 : xIns xg 141 88 = some (.aload_n 0) := by decide +kernel
theorem i141_89 : xIns xg 141 89 = some (.getfield 30) := by decide +kernel
theorem i141_92 : xIns xg 141 92 = some (.iload_n 1) := by decide +kernel
theorem i141_93 : xIns xg 141 93 = some (.laload) := by decide +kernel
theorem i141_94 : xIns xg 141 94 = some (.lastore) := by decide +kernel
theorem i141_95 : xIns xg 141 95 = some (.aload_n 0) := by decide +kernel
theorem i141_96 : xIns xg 141 96 = some (.getfield 136) := by decide +kernel
theorem i141_99 : xIns xg 141 99 = some (.iload_n 1) := by decide +kernel
theorem i141_100 : xIns xg 141 100 = some (.aload_n 0) := by decide +kernel
theorem i141_101 : xIns xg 141 101 = some (.getfield 33) := by decide +kernel
theorem i141_104 : xIns xg 141 104 = some (.iload_n 1) := by decide +kernel
theorem i141_105 : xIns xg 141 105 = some (.iaload) := by decide +kernel
theorem i141_106 : xIns xg 141 106 = some (.iastore) := by decide +kernel
theorem i141_107 : xIns xg 141 107 = some (.aload_n 0) := by decide +kernel
theorem i141_108 : xIns xg 141 108 = some (.getfield 142) := by decide +kernel
theorem i141_111 : xIns xg 141 111 = some (.iload_n 1) := by decide +kernel
theorem i141_112 : xIns xg 141 112 = some (.aload_n 0) := by decide +kernel
theorem i141_113 : xIns xg 141 113 = some (.getfield 42) := by decide +kernel
theorem i141_116 : xIns xg 141 116 = some (.iload_n 1) := by decide +kernel
theorem i141_117 : xIns xg 141 117 = some (.iaload) := by decide +kernel
theorem i141_118 : xIns xg 141 118 = some (.iastore) := by decide +kernel
theorem i141_119 : xIns xg 141 119 = some (.aload_n 0) := by decide +kernel
theorem i141_120 : xIns xg 141 120 = some (.getfield 145) := by decide +kernel
theorem i141_123 : xIns xg 141 123 = some (.iload_n 1) := by decide +kernel
theorem i141_124 : xIns xg 141 124 = some (.aload_n 0) := by decide +kernel
theorem i141_125 : xIns xg 141 125 = some (.getfield 45) := by decide +kernel
theorem i141_128 : xIns xg 141 128 = some (.iload_n 1) := by decide +kernel
theorem i141_129 : xIns xg 141 129 = some (.iaload) := by decide +kernel
theorem i141_130 : xIns xg 141 130 = some (.iastore) := by decide +kernel
theorem i141_131 : xIns xg 141 131 = some (.aload_n 0) := by decide +kernel
theorem i141_132 : xIns xg 141 132 = some (.getfield 148) := by decide +kernel
theorem i141_135 : xIns xg 141 135 = some (.iload_n 1) := by decide +kernel
theorem i141_136 : xIns xg 141 136 = some (.aload_n 0) := by decide +kernel
theorem i141_137 : xIns xg 141 137 = some (.getfield 52) := by decide +kernel
theorem i141_140 : xIns xg 141 140 = some (.iload_n 1) := by decide +kernel
theorem i141_141 : xIns xg 141 141 = some (.iaload) := by decide +kernel
theorem i141_142 : xIns xg 141 142 = some (.iastore) := by decide +kernel
theorem i141_143 : xIns xg 141 143 = some (.aload_n 0) := by decide +kernel
theorem i141_144 : xIns xg 141 144 = some (.getfield 151) := by decide +kernel
theorem i141_147 : xIns xg 141 147 = some (.iload_n 1) := by decide +kernel
theorem i141_148 : xIns xg 141 148 = some (.aload_n 0) := by decide +kernel
theorem i141_149 : xIns xg 141 149 = some (.getfield 55) := by decide +kernel
theorem i141_152 : xIns xg 141 152 = some (.iload_n 1) := by decide +kernel
theorem i141_153 : xIns xg 141 153 = some (.iaload) := by decide +kernel
theorem i141_154 : xIns xg 141 154 = some (.iastore) := by decide +kernel
theorem i141_155 : xIns xg 141 155 = some (.iinc 1 1) := by decide +kernel
theorem i141_158 : xIns xg 141 158 = some (.goto (-130)) := by decide +kernel
theorem i141_2 : xIns xg 141 2 = some (.iload_n 1) := by decide +kernel
theorem i141_3 : xIns xg 141 3 = some (.bipush 8) := by decide +kernel
theorem i141_5 : xIns xg 141 5 = some (.if_icmp .ge 21) := by decide +kernel
theorem i141_26 : xIns xg 141 26 = some (.iconst 0) := by decide +kernel
theorem i141_27 : xIns xg 141 27 = some (.istore_n 1) := by decide +kernel
theorem i141_8 : xIns xg 141 8 = some (.aload_n 0) := by decide +kernel
theorem i141_9 : xIns xg 141 9 = some (.getfield 118) := by decide +kernel
theorem i141_12 : xIns xg 141 12 = some (.iload_n 1) := by decide +kernel
theorem i141_13 : xIns xg 141 13 = some (.aload_n 0) := by decide +kernel
theorem i141_14 : xIns xg 141 14 = some (.getfield 13) := by decide +kernel
theorem i141_17 : xIns xg 141 17 = some (.iload_n 1) := by decide +kernel
theorem i141_18 : xIns xg 141 18 = some (.iaload) := by decide +kernel
theorem i141_19 : xIns xg 141 19 = some (.iastore) := by decide +kernel
theorem i141_20 : xIns xg 141 20 = some (.iinc 1 1) := by decide +kernel
theorem i141_23 : xIns xg 141 23 = some (.goto (-21)) := by decide +kernel
theorem i141_0 : xIns xg 141 0 = some (.iconst 0) := by decide +kernel
theorem i141_1 : xIns xg 141 1 = some (.istore_n 1) := by decide +kernel
def d_x8_image_190 (N : Nat)  (k190 : St → Int → Option Rs) (s : St) (x1 : Int) : Option Rs :=
  (if (w32 x1) < 12288 then if 0 ≤ (w32 x1) ∧ (w32 x1) < ((12288 : Nat) : Int) then if 0 ≤ (w32 x1) ∧ (w32 x1) < ((12288 : Nat) : Int) then bd (up s 123 (Int.toNat (w32 x1)) (s 91 (Int.toNat (w32 x1)))) fun s5 => if 0 ≤ (w32 x1) ∧ (w32 x1) < ((12288 : Nat) : Int) then if 0 ≤ (w32 x1) ∧ (w32 x1) < ((12288 : Nat) : Int) then bd (up s5 124 (Int.toNat (w32 x1)) (s5 92 (Int.toNat (w32 x1)))) fun s6 => if 0 ≤ (w32 x1) ∧ (w32 x1) < ((12288 : Nat) : Int) then if 0 ≤ (w32 x1) ∧ (w32 x1) < ((12288 : Nat) : Int) then bd (up s6 125 (Int.toNat (w32 x1)) (s6 93 (Int.toNat (w32 x1)))) fun s7 => bd (x1 + 1) fun v8 => k190 s7 v8 else none else none else none else none else none else none else bd (up s 77 63 (s 77 9)) fun s1 => bd (up s1 77 64 1) fun s2 => bI (d_x8_full N  s2 ) fun s3 v4 => some (s3, v4))
def d_x8_image_190L (N : Nat)  : Nat → St → Int → Option Rs
  | 0 => fun _ _ => none
  | n + 1 => d_x8_image_190 N  (d_x8_image_190L N  n)
set_option maxHeartbeats 4000000 in
set_option maxRecDepth 100000 in
theorem c_x8_image_190 {sc : xS} {d : Nat} {R : Rs} (N : Nat)  (hd : 1 ≤ d)   (k190 : St → Int → Option Rs) (hk190 : ∀ (s : St) (x1 : Int), k190 s x1 = some R → vT sc d 141 190 [(0, .ref 77), (1, vi x1)] [] s (fun r => r = qI R)) (s : St) (x1 : Int) : d_x8_image_190 N  k190 s x1 = some R → vT sc d 141 190 [(0, .ref 77), (1, vi x1)] [] s (fun r => r = qI R) := by
  obtain ⟨d, rfl⟩ : ∃ d', d = d' + 1 := ⟨d - 1, by omega⟩
  unfold d_x8_image_190
  refine vLin 191 i141_190 rfl rfl ?_
  refine vKs 194 i141_191 (by decide) rfl ?_
  refine vCge 239 197 rfl (show w32 12288 = 12288 from rfl) i141_194 rfl rfl ?_ ?_
  · refine vLan 240 i141_239 rfl rfl ?_
    refine vLan 241 i141_240 rfl rfl ?_
    refine vGet 244 i141_241 f141_39 sh_77 rfl rfl ?_
    refine vPut 247 i141_244 p141_416 sh_77 rfl rfl (fun s1 => ?_)
    refine vLan 248 i141_247 rfl rfl ?_
    refine vK 249 i141_248 rfl ?_
    refine vPutZ0 252 (Or.inr rfl) i141_249 p141_419 sh_77 rfl rfl (fun s2 => ?_)
    refine vLan 253 i141_252 rfl rfl ?_
    refine vCallI 256 [.ref 77] [] [(0, .ref 77)] i141_253 rfl (xlk0 l141_422) (Or.inl rfl) m136 rfl rfl (Nat.le_of_ble_eq_true rfl) (Nat.le_of_ble_eq_true rfl) (Nat.le_of_ble_eq_true rfl) (xh0 sh_77 (by decide)) rfl rfl (fun R1 => c_x8_full N   (by omega) s2 ) (fun s3 v4 => ?_)
    exact vRi i141_256 m141 rfl
  · refine vLan 198 i141_197 rfl rfl ?_
    refine vGetC 201 i141_198 f141_154 sh_77 rfl rfl ?_
    refine vLin 202 i141_201 rfl rfl ?_
    refine vLan 203 i141_202 rfl rfl ?_
    refine vGetC 206 i141_203 f141_58 sh_77 rfl rfl ?_
    refine vLin 207 i141_206 rfl rfl ?_
    refine vIal 208 rfl i141_207 sh_91 rfl ?_
    refine vIas 209 rfl i141_208 sh_123 rfl (fun s5 => ?_)
    refine vLan 210 i141_209 rfl rfl ?_
    refine vGetC 213 i141_210 f141_157 sh_77 rfl rfl ?_
    refine vLin 214 i141_213 rfl rfl ?_
    refine vLan 215 i141_214 rfl rfl ?_
    refine vGetC 218 i141_215 f141_61 sh_77 rfl rfl ?_
    refine vLin 219 i141_218 rfl rfl ?_
    refine vLal 220 rfl i141_219 sh_92 rfl ?_
    refine vLas 221 rfl i141_220 sh_124 rfl (fun s6 => ?_)
    refine vLan 222 i141_221 rfl rfl ?_
    refine vGetC 225 i141_222 f141_160 sh_77 rfl rfl ?_
    refine vLin 226 i141_225 rfl rfl ?_
    refine vLan 227 i141_226 rfl rfl ?_
    refine vGetC 230 i141_227 f141_64 sh_77 rfl rfl ?_
    refine vLin 231 i141_230 rfl rfl ?_
    refine vIal 232 rfl i141_231 sh_93 rfl ?_
    refine vIas 233 rfl i141_232 sh_125 rfl (fun s7 => ?_)
    refine vInc 236 (fun v8 => [(1, vi v8), (0, .ref 77)]) i141_233 m141 (by decide) rfl (fun _ => rfl) rfl (fun v8 => ?_)
    refine vGo 190 i141_236 rfl ?_
    exact fun hD => tLc [(0, .ref 77), (1, vi v8)] (xNdk [0, 1] rfl (by decide)) (xNdk [1, 0] rfl (by decide)) ⟨rfl, rfl, trivial⟩ (hk190 s7 v8 hD)
theorem c_x8_image_190L {sc : xS} {d : Nat} {R : Rs} (N : Nat)  (hd : 1 ≤ d)   : ∀ (n : Nat) (s : St) (x1 : Int), d_x8_image_190L N  n s x1 = some R → vT sc d 141 190 [(0, .ref 77), (1, vi x1)] [] s (fun r => r = qI R) := by
  intro n
  induction n with
  | zero => intro s x1 hD; cases hD
  | succ n ih => intro s x1 hD; exact c_x8_image_190 N  hd  _ ih s x1 hD
def d_x8_image_163 (N : Nat)  (k163 : St → Int → Option Rs) (s : St) (x1 : Int) : Option Rs :=
  (if (w32 x1) < 1536 then if 0 ≤ (w32 x1) ∧ (w32 x1) < ((1536 : Nat) : Int) then if 0 ≤ (w32 x1) ∧ (w32 x1) < ((1536 : Nat) : Int) then bd (up s 118 (Int.toNat (w32 x1)) (s 85 (Int.toNat (w32 x1)))) fun s9 => bd (x1 + 1) fun v10 => k163 s9 v10 else none else none else d_x8_image_190L N  N s 0)
def d_x8_image_163L (N : Nat)  : Nat → St → Int → Option Rs
  | 0 => fun _ _ => none
  | n + 1 => d_x8_image_163 N  (d_x8_image_163L N  n)
set_option maxHeartbeats 4000000 in
set_option maxRecDepth 100000 in
theorem c_x8_image_163 {sc : xS} {d : Nat} {R : Rs} (N : Nat)  (hd : 1 ≤ d)   (k163 : St → Int → Option Rs) (hk163 : ∀ (s : St) (x1 : Int), k163 s x1 = some R → vT sc d 141 163 [(0, .ref 77), (1, vi x1)] [] s (fun r => r = qI R)) (s : St) (x1 : Int) : d_x8_image_163 N  k163 s x1 = some R → vT sc d 141 163 [(0, .ref 77), (1, vi x1)] [] s (fun r => r = qI R) := by
  obtain ⟨d, rfl⟩ : ∃ d', d = d' + 1 := ⟨d - 1, by omega⟩
  unfold d_x8_image_163
  refine vLin 164 i141_163 rfl rfl ?_
  refine vKs 167 i141_164 (by decide) rfl ?_
  refine vCge 188 170 rfl (show w32 1536 = 1536 from rfl) i141_167 rfl rfl ?_ ?_
  · refine vK 189 i141_188 rfl ?_
    refine vSin0 190 [(1, vi 0), (0, .ref 77)] i141_189 m141 (by decide) rfl rfl ?_
    exact fun hD => tLc [(0, .ref 77), (1, vi 0)] (xNdk [0, 1] rfl (by decide)) (xNdk [1, 0] rfl (by decide)) ⟨rfl, rfl, trivial⟩ (c_x8_image_190L N  hd  N s 0 hD)
  · refine vLan 171 i141_170 rfl rfl ?_
    refine vGetC 174 i141_171 f141_139 sh_77 rfl rfl ?_
    refine vLin 175 i141_174 rfl rfl ?_
    refine vLan 176 i141_175 rfl rfl ?_
    refine vGetC 179 i141_176 f141_36 sh_77 rfl rfl ?_
    refine vLin 180 i141_179 rfl rfl ?_
    refine vLal 181 rfl i141_180 sh_85 rfl ?_
    refine vLas 182 rfl i141_181 sh_118 rfl (fun s9 => ?_)
    refine vInc 185 (fun v10 => [(1, vi v10), (0, .ref 77)]) i141_182 m141 (by decide) rfl (fun _ => rfl) rfl (fun v10 => ?_)
    refine vGo 163 i141_185 rfl ?_
    exact fun hD => tLc [(0, .ref 77), (1, vi v10)] (xNdk [0, 1] rfl (by decide)) (xNdk [1, 0] rfl (by decide)) ⟨rfl, rfl, trivial⟩ (hk163 s9 v10 hD)
theorem c_x8_image_163L {sc : xS} {d : Nat} {R : Rs} (N : Nat)  (hd : 1 ≤ d)   : ∀ (n : Nat) (s : St) (x1 : Int), d_x8_image_163L N  n s x1 = some R → vT sc d 141 163 [(0, .ref 77), (1, vi x1)] [] s (fun r => r = qI R) := by
  intro n
  induction n with
  | zero => intro s x1 hD; cases hD
  | succ n ih => intro s x1 hD; exact c_x8_image_163 N  hd  _ ih s x1 hD
def d_x8_image_28 (N : Nat)  (k28 : St → Int → Option Rs) (s : St) (x1 : Int) : Option Rs :=
  (if (w32 x1) < 192 then if 0 ≤ (w32 x1) ∧ (w32 x1) < ((192 : Nat) : Int) then if 0 ≤ (w32 x1) ∧ (w32 x1) < ((192 : Nat) : Int) then bd (up s 112 (Int.toNat (w32 x1)) (s 79 (Int.toNat (w32 x1)))) fun s11 => if 0 ≤ (w32 x1) ∧ (w32 x1) < ((192 : Nat) : Int) then if 0 ≤ (w32 x1) ∧ (w32 x1) < ((192 : Nat) : Int) then bd (up s11 113 (Int.toNat (w32 x1)) (s11 80 (Int.toNat (w32 x1)))) fun s12 => if 0 ≤ (w32 x1) ∧ (w32 x1) < ((192 : Nat) : Int) then if 0 ≤ (w32 x1) ∧ (w32 x1) < ((192 : Nat) : Int) then bd (up s12 114 (Int.toNat (w32 x1)) (s12 81 (Int.toNat (w32 x1)))) fun s13 => if 0 ≤ (w32 x1) ∧ (w32 x1) < ((192 : Nat) : Int) then if 0 ≤ (w32 x1) ∧ (w32 x1) < ((192 : Nat) : Int) then bd (up s13 115 (Int.toNat (w32 x1)) (s13 82 (Int.toNat (w32 x1)))) fun s14 => if 0 ≤ (w32 x1) ∧ (w32 x1) < ((192 : Nat) : Int) then if 0 ≤ (w32 x1) ∧ (w32 x1) < ((192 : Nat) : Int) then bd (up s14 116 (Int.toNat (w32 x1)) (s14 83 (Int.toNat (w32 x1)))) fun s15 => if 0 ≤ (w32 x1) ∧ (w32 x1) < ((192 : Nat) : Int) then if 0 ≤ (w32 x1) ∧ (w32 x1) < ((192 : Nat) : Int) then bd (up s15 117 (Int.toNat (w32 x1)) (s15 84 (Int.toNat (w32 x1)))) fun s16 => if 0 ≤ (w32 x1) ∧ (w32 x1) < ((192 : Nat) : Int) then if 0 ≤ (w32 x1) ∧ (w32 x1) < ((192 : Nat) : Int) then bd (up s16 119 (Int.toNat (w32 x1)) (s16 86 (Int.toNat (w32 x1)))) fun s17 => if 0 ≤ (w32 x1) ∧ (w32 x1) < ((192 : Nat) : Int) then if 0 ≤ (w32 x1) ∧ (w32 x1) < ((192 : Nat) : Int) then bd (up s17 120 (Int.toNat (w32 x1)) (s17 87 (Int.toNat (w32 x1)))) fun s18 => if 0 ≤ (w32 x1) ∧ (w32 x1) < ((192 : Nat) : Int) then if 0 ≤ (w32 x1) ∧ (w32 x1) < ((192 : Nat) : Int) then bd (up s18 121 (Int.toNat (w32 x1)) (s18 89 (Int.toNat (w32 x1)))) fun s19 => if 0 ≤ (w32 x1) ∧ (w32 x1) < ((192 : Nat) : Int) then if 0 ≤ (w32 x1) ∧ (w32 x1) < ((192 : Nat) : Int) then bd (up s19 122 (Int.toNat (w32 x1)) (s19 90 (Int.toNat (w32 x1)))) fun s20 => bd (x1 + 1) fun v21 => k28 s20 v21 else none else none else none else none else none else none else none else none else none else none else none else none else none else none else none else none else none else none else none else none else d_x8_image_163L N  N s 0)
def d_x8_image_28L (N : Nat)  : Nat → St → Int → Option Rs
  | 0 => fun _ _ => none
  | n + 1 => d_x8_image_28 N  (d_x8_image_28L N  n)
set_option maxHeartbeats 4000000 in
set_option maxRecDepth 100000 in
theorem c_x8_image_28 {sc : xS} {d : Nat} {R : Rs} (N : Nat)  (hd : 1 ≤ d)   (k28 : St → Int → Option Rs) (hk28 : ∀ (s : St) (x1 : Int), k28 s x1 = some R → vT sc d 141 28 [(0, .ref 77), (1, vi x1)] [] s (fun r => r = qI R)) (s : St) (x1 : Int) : d_x8_image_28 N  k28 s x1 = some R → vT sc d 141 28 [(0, .ref 77), (1, vi x1)] [] s (fun r => r = qI R) := by
  obtain ⟨d, rfl⟩ : ∃ d', d = d' + 1 := ⟨d - 1, by omega⟩
  unfold d_x8_image_28
  refine vLin 29 i141_28 rfl rfl ?_
  refine vKs 32 i141_29 (by decide) rfl ?_
  refine vCge 161 35 rfl (show w32 192 = 192 from rfl) i141_32 rfl rfl ?_ ?_
  · refine vK 162 i141_161 rfl ?_
    refine vSin0 163 [(1, vi 0), (0, .ref 77)] i141_162 m141 (by decide) rfl rfl ?_
    exact fun hD => tLc [(0, .ref 77), (1, vi 0)] (xNdk [0, 1] rfl (by decide)) (xNdk [1, 0] rfl (by decide)) ⟨rfl, rfl, trivial⟩ (c_x8_image_163L N  hd  N s 0 hD)
  · refine vLan 36 i141_35 rfl rfl ?_
    refine vGetC 39 i141_36 f141_121 sh_77 rfl rfl ?_
    refine vLin 40 i141_39 rfl rfl ?_
    refine vLan 41 i141_40 rfl rfl ?_
    refine vGetC 44 i141_41 f141_17 sh_77 rfl rfl ?_
    refine vLin 45 i141_44 rfl rfl ?_
    refine vIal 46 rfl i141_45 sh_79 rfl ?_
    refine vIas 47 rfl i141_46 sh_112 rfl (fun s11 => ?_)
    refine vLan 48 i141_47 rfl rfl ?_
    refine vGetC 51 i141_48 f141_124 sh_77 rfl rfl ?_
    refine vLin 52 i141_51 rfl rfl ?_
    refine vLan 53 i141_52 rfl rfl ?_
    refine vGetC 56 i141_53 f141_20 sh_77 rfl rfl ?_
    refine vLin 57 i141_56 rfl rfl ?_
    refine vIal 58 rfl i141_57 sh_80 rfl ?_
    refine vIas 59 rfl i141_58 sh_113 rfl (fun s12 => ?_)
    refine vLan 60 i141_59 rfl rfl ?_
    refine vGetC 63 i141_60 f141_127 sh_77 rfl rfl ?_
    refine vLin 64 i141_63 rfl rfl ?_
    refine vLan 65 i141_64 rfl rfl ?_
    refine vGetC 68 i141_65 f141_23 sh_77 rfl rfl ?_
    refine vLin 69 i141_68 rfl rfl ?_
    refine vIal 70 rfl i141_69 sh_81 rfl ?_
    refine vIas 71 rfl i141_70 sh_114 rfl (fun s13 => ?_)
    refine vLan 72 i141_71 rfl rfl ?_
    refine vGetC 75 i141_72 f141_130 sh_77 rfl rfl ?_
    refine vLin 76 i141_75 rfl rfl ?_
    refine vLan 77 i141_76 rfl rfl ?_
    refine vGetC 80 i141_77 f141_26 sh_77 rfl rfl ?_
    refine vLin 81 i141_80 rfl rfl ?_
    refine vLal 82 rfl i141_81 sh_82 rfl ?_
    refine vLas 83 rfl i141_82 sh_115 rfl (fun s14 => ?_)
    refine vLan 84 i141_83 rfl rfl ?_
    refine vGetC 87 i141_84 f141_133 sh_77 rfl rfl ?_
    refine vLin 88 i141_87 rfl rfl ?_
    refine vLan 89 i141_88 rfl rfl ?_
    refine vGetC 92 i141_89 f141_30 sh_77 rfl rfl ?_
    refine vLin 93 i141_92 rfl rfl ?_
    refine vLal 94 rfl i141_93 sh_83 rfl ?_
    refine vLas 95 rfl i141_94 sh_116 rfl (fun s15 => ?_)
    refine vLan 96 i141_95 rfl rfl ?_
    refine vGetC 99 i141_96 f141_136 sh_77 rfl rfl ?_
    refine vLin 100 i141_99 rfl rfl ?_
    refine vLan 101 i141_100 rfl rfl ?_
    refine vGetC 104 i141_101 f141_33 sh_77 rfl rfl ?_
    refine vLin 105 i141_104 rfl rfl ?_
    refine vIal 106 rfl i141_105 sh_84 rfl ?_
    refine vIas 107 rfl i141_106 sh_117 rfl (fun s16 => ?_)
    refine vLan 108 i141_107 rfl rfl ?_
    refine vGetC 111 i141_108 f141_142 sh_77 rfl rfl ?_
    refine vLin 112 i141_111 rfl rfl ?_
    refine vLan 113 i141_112 rfl rfl ?_
    refine vGetC 116 i141_113 f141_42 sh_77 rfl rfl ?_
    refine vLin 117 i141_116 rfl rfl ?_
    refine vIal 118 rfl i141_117 sh_86 rfl ?_
    refine vIas 119 rfl i141_118 sh_119 rfl (fun s17 => ?_)
    refine vLan 120 i141_119 rfl rfl ?_
    refine vGetC 123 i141_120 f141_145 sh_77 rfl rfl ?_
    refine vLin 124 i141_123 rfl rfl ?_
    refine vLan 125 i141_124 rfl rfl ?_
    refine vGetC 128 i141_125 f141_45 sh_77 rfl rfl ?_
    refine vLin 129 i141_128 rfl rfl ?_
    refine vIal 130 rfl i141_129 sh_87 rfl ?_
    refine vIas 131 rfl i141_130 sh_120 rfl (fun s18 => ?_)
    refine vLan 132 i141_131 rfl rfl ?_
    refine vGetC 135 i141_132 f141_148 sh_77 rfl rfl ?_
    refine vLin 136 i141_135 rfl rfl ?_
    refine vLan 137 i141_136 rfl rfl ?_
    refine vGetC 140 i141_137 f141_52 sh_77 rfl rfl ?_
    refine vLin 141 i141_140 rfl rfl ?_
    refine vIal 142 rfl i141_141 sh_89 rfl ?_
    refine vIas 143 rfl i141_142 sh_121 rfl (fun s19 => ?_)
    refine vLan 144 i141_143 rfl rfl ?_
    refine vGetC 147 i141_144 f141_151 sh_77 rfl rfl ?_
    refine vLin 148 i141_147 rfl rfl ?_
    refine vLan 149 i141_148 rfl rfl ?_
    refine vGetC 152 i141_149 f141_55 sh_77 rfl rfl ?_
    refine vLin 153 i141_152 rfl rfl ?_
    refine vIal 154 rfl i141_153 sh_90 rfl ?_
    refine vIas 155 rfl i141_154 sh_122 rfl (fun s20 => ?_)
    refine vInc 158 (fun v21 => [(1, vi v21), (0, .ref 77)]) i141_155 m141 (by decide) rfl (fun _ => rfl) rfl (fun v21 => ?_)
    refine vGo 28 i141_158 rfl ?_
    exact fun hD => tLc [(0, .ref 77), (1, vi v21)] (xNdk [0, 1] rfl (by decide)) (xNdk [1, 0] rfl (by decide)) ⟨rfl, rfl, trivial⟩ (hk28 s20 v21 hD)
theorem c_x8_image_28L {sc : xS} {d : Nat} {R : Rs} (N : Nat)  (hd : 1 ≤ d)   : ∀ (n : Nat) (s : St) (x1 : Int), d_x8_image_28L N  n s x1 = some R → vT sc d 141 28 [(0, .ref 77), (1, vi x1)] [] s (fun r => r = qI R) := by
  intro n
  induction n with
  | zero => intro s x1 hD; cases hD
  | succ n ih => intro s x1 hD; exact c_x8_image_28 N  hd  _ ih s x1 hD
def d_x8_image_2 (N : Nat)  (k2 : St → Int → Option Rs) (s : St) (x1 : Int) : Option Rs :=
  (if (w32 x1) < 8 then if 0 ≤ (w32 x1) ∧ (w32 x1) < ((8 : Nat) : Int) then if 0 ≤ (w32 x1) ∧ (w32 x1) < ((8 : Nat) : Int) then bd (up s 111 (Int.toNat (w32 x1)) (s 78 (Int.toNat (w32 x1)))) fun s22 => bd (x1 + 1) fun v23 => k2 s22 v23 else none else none else d_x8_image_28L N  N s 0)
def d_x8_image_2L (N : Nat)  : Nat → St → Int → Option Rs
  | 0 => fun _ _ => none
  | n + 1 => d_x8_image_2 N  (d_x8_image_2L N  n)
set_option maxHeartbeats 4000000 in
set_option maxRecDepth 100000 in
theorem c_x8_image_2 {sc : xS} {d : Nat} {R : Rs} (N : Nat)  (hd : 1 ≤ d)   (k2 : St → Int → Option Rs) (hk2 : ∀ (s : St) (x1 : Int), k2 s x1 = some R → vT sc d 141 2 [(0, .ref 77), (1, vi x1)] [] s (fun r => r = qI R)) (s : St) (x1 : Int) : d_x8_image_2 N  k2 s x1 = some R → vT sc d 141 2 [(0, .ref 77), (1, vi x1)] [] s (fun r => r = qI R) := by
  obtain ⟨d, rfl⟩ : ∃ d', d = d' + 1 := ⟨d - 1, by omega⟩
  unfold d_x8_image_2
  refine vLin 3 i141_2 rfl rfl ?_
  refine vKb 5 i141_3 (by decide) rfl ?_
  refine vCge 26 8 rfl (show w32 8 = 8 from rfl) i141_5 rfl rfl ?_ ?_
  · refine vK 27 i141_26 rfl ?_
    refine vSin0 28 [(1, vi 0), (0, .ref 77)] i141_27 m141 (by decide) rfl rfl ?_
    exact fun hD => tLc [(0, .ref 77), (1, vi 0)] (xNdk [0, 1] rfl (by decide)) (xNdk [1, 0] rfl (by decide)) ⟨rfl, rfl, trivial⟩ (c_x8_image_28L N  hd  N s 0 hD)
  · refine vLan 9 i141_8 rfl rfl ?_
    refine vGetC 12 i141_9 f141_118 sh_77 rfl rfl ?_
    refine vLin 13 i141_12 rfl rfl ?_
    refine vLan 14 i141_13 rfl rfl ?_
    refine vGetC 17 i141_14 f141_13 sh_77 rfl rfl ?_
    refine vLin 18 i141_17 rfl rfl ?_
    refine vIal 19 rfl i141_18 sh_78 rfl ?_
    refine vIas 20 rfl i141_19 sh_111 rfl (fun s22 => ?_)
    refine vInc 23 (fun v23 => [(1, vi v23), (0, .ref 77)]) i141_20 m141 (by decide) rfl (fun _ => rfl) rfl (fun v23 => ?_)
    refine vGo 2 i141_23 rfl ?_
    exact fun hD => tLc [(0, .ref 77), (1, vi v23)] (xNdk [0, 1] rfl (by decide)) (xNdk [1, 0] rfl (by decide)) ⟨rfl, rfl, trivial⟩ (hk2 s22 v23 hD)
theorem c_x8_image_2L {sc : xS} {d : Nat} {R : Rs} (N : Nat)  (hd : 1 ≤ d)   : ∀ (n : Nat) (s : St) (x1 : Int), d_x8_image_2L N  n s x1 = some R → vT sc d 141 2 [(0, .ref 77), (1, vi x1)] [] s (fun r => r = qI R) := by
  intro n
  induction n with
  | zero => intro s x1 hD; cases hD
  | succ n ih => intro s x1 hD; exact c_x8_image_2 N  hd  _ ih s x1 hD
def d_x8_image (N : Nat)  (s : St)  : Option Rs :=
  d_x8_image_2L N  N s 0
set_option maxHeartbeats 4000000 in
set_option maxRecDepth 100000 in
theorem c_x8_image {sc : xS} {d : Nat} {R : Rs} (N : Nat)  (hd : 1 ≤ d)   (s : St)  : d_x8_image N  s  = some R → vT sc d 141 0 [(0, .ref 77)] [] s (fun r => r = qI R) := by
  obtain ⟨d, rfl⟩ : ∃ d', d = d' + 1 := ⟨d - 1, by omega⟩
  unfold d_x8_image
  refine vK 1 i141_0 rfl ?_
  refine vSin0 2 [(1, vi 0), (0, .ref 77)] i141_1 m141 (by decide) rfl rfl ?_
  exact fun hD => tLc [(0, .ref 77), (1, vi 0)] (xNdk [0, 1] rfl (by decide)) (xNdk [1, 0] rfl (by decide)) ⟨rfl, rfl, trivial⟩ (c_x8_image_2L N  hd  N s 0 hD)
theorem f120_419 : xFld xg 120 419 = some (7, 64) := by decide +kernel
theorem f120_416 : xFld xg 120 416 = some (7, 63) := by decide +kernel
theorem f120_58 : xFld xg 120 58 = some (7, 15) := by decide +kernel
theorem f120_154 : xFld xg 120 154 = some (7, 60) := by decide +kernel
theorem f120_61 : xFld xg 120 61 = some (7, 16) := by decide +kernel
theorem f120_157 : xFld xg 120 157 = some (7, 61) := by decide +kernel
theorem f120_64 : xFld xg 120 64 = some (7, 17) := by decide +kernel
theorem f120_160 : xFld xg 120 160 = some (7, 62) := by decide +kernel
theorem f120_36 : xFld xg 120 36 = some (7, 8) := by decide +kernel
theorem f120_139 : xFld xg 120 139 = some (7, 55) := by decide +kernel
theorem f120_17 : xFld xg 120 17 = some (7, 2) := by decide +kernel
theorem f120_121 : xFld xg 120 121 = some (7, 49) := by decide +kernel
theorem f120_20 : xFld xg 120 20 = some (7, 3) := by decide +kernel
theorem f120_124 : xFld xg 120 124 = some (7, 50) := by decide +kernel
theorem f120_23 : xFld xg 120 23 = some (7, 4) := by decide +kernel
theorem f120_127 : xFld xg 120 127 = some (7, 51) := by decide +kernel
theorem f120_26 : xFld xg 120 26 = some (7, 5) := by decide +kernel
theorem f120_130 : xFld xg 120 130 = some (7, 52) := by decide +kernel
theorem f120_30 : xFld xg 120 30 = some (7, 6) := by decide +kernel
theorem f120_133 : xFld xg 120 133 = some (7, 53) := by decide +kernel
theorem f120_33 : xFld xg 120 33 = some (7, 7) := by decide +kernel
theorem f120_136 : xFld xg 120 136 = some (7, 54) := by decide +kernel
theorem f120_42 : xFld xg 120 42 = some (7, 10) := by decide +kernel
theorem f120_142 : xFld xg 120 142 = some (7, 56) := by decide +kernel
theorem f120_45 : xFld xg 120 45 = some (7, 11) := by decide +kernel
theorem f120_145 : xFld xg 120 145 = some (7, 57) := by decide +kernel
theorem f120_52 : xFld xg 120 52 = some (7, 13) := by decide +kernel
theorem f120_148 : xFld xg 120 148 = some (7, 58) := by decide +kernel
theorem f120_55 : xFld xg 120 55 = some (7, 14) := by decide +kernel
theorem f120_151 : xFld xg 120 151 = some (7, 59) := by decide +kernel
theorem f120_13 : xFld xg 120 13 = some (7, 1) := by decide +kernel
theorem f120_118 : xFld xg 120 118 = some (7, 48) := by decide +kernel
theorem i120_200 : xIns xg 120 200 = some (.iload_n 1) := by decide +kernel
theorem i120_201 : xIns xg 120 201 = some (.sipush 12288) := by decide +kernel
theorem i120_204 : xIns xg 120 204 = some (.if_icmp .ge 45) := by decide +kernel
theorem i120_249 : xIns xg 120 249 = some (.aload_n 0) := by decide +kernel
theorem i120_250 : xIns xg 120 250 = some (.aload_n 0) := by decide +kernel
theorem i120_251 : xIns xg 120 251 = some (.getfield 416) := by decide +kernel
theorem i120_254 : xIns xg 120 254 = some (.putfield 39) := by decide +kernel
theorem p120_39 : xPut xg 120 39 = some (7, 9, .int) := by decide +kernel
theorem i120_257 : xIns xg 120 257 = some (.aload_n 0) := by decide +kernel
theorem i120_258 : xIns xg 120 258 = some (.invokevirtual 422) := by decide +kernel
theorem i120_261 : xIns xg 120 261 = some (.ireturn) := by decide +kernel
theorem m120 : (xMet xg 120).2.2 = (2, (some .int)) := by decide +kernel
theorem i120_207 : xIns xg 120 207 = some (.aload_n 0) := by decide +kernel
theorem i120_208 : xIns xg 120 208 = some (.getfield 58) := by decide +kernel
theorem i120_211 : xIns xg 120 211 = some (.iload_n 1) := by decide +kernel
theorem i120_212 : xIns xg 120 212 = some (.aload_n 0) := by decide +kernel
theorem i120_213 : xIns xg 120 213 = some (.getfield 154) := by decide +kernel
theorem i120_216 : xIns xg 120 216 = some (.iload_n 1) := by decide +kernel
theorem i120_217 : xIns xg 120 217 = some (.iaload) := by decide +kernel
theorem i120_218 : xIns xg 120 218 = some (.iastore) := by decide +kernel
theorem i120_219 : xIns xg 120 219 = some (.aload_n 0) := by decide +kernel
theorem i120_220 : xIns xg 120 220 = some (.getfield 61) := by decide +kernel
theorem i120_223 : xIns xg 120 223 = some (.iload_n 1) := by decide +kernel
theorem i120_224 : xIns xg 120 224 = some (.aload_n 0) := by decide +kernel
theorem i120_225 : xIns xg 120 225 = some (.getfield 157) := by decide +kernel
theorem i120_228 : xIns xg 120 228 = some (.iload_n 1) := by decide +kernel
theorem i120_229 : xIns xg 120 229 = some (.laload) := by decide +kernel
theorem i120_230 : xIns xg 120 230 = some (.lastore) := by decide +kernel
theorem i120_231 : xIns xg 120 231 = some (.aload_n 0) := by decide +kernel
theorem i120_232 : xIns xg 120 232 = some (.getfield 64) := by decide +kernel
theorem i120_235 : xIns xg 120 235 = some (.iload_n 1) := by decide +kernel
theorem i120_236 : xIns xg 120 236 = some (.aload_n 0) := by decide +kernel
theorem i120_237 : xIns xg 120 237 = some (.getfield 160) := by decide +kernel
theorem i120_240 : xIns xg 120 240 = some (.iload_n 1) := by decide +kernel
theorem i120_241 : xIns xg 120 241 = some (.iaload) := by decide +kernel
theorem i120_242 : xIns xg 120 242 = some (.iastore) := by decide +kernel
theorem i120_243 : xIns xg 120 243 = some (.iinc 1 1) := by decide +kernel
theorem i120_246 : xIns xg 120 246 = some (.goto (-46)) := by decide +kernel
theorem i120_173 : xIns xg 120 173 = some (.iload_n 1) := by decide +kernel
theorem i120_174 : xIns xg 120 174 = some (.sipush 1536) := by decide +kernel
theorem i120_177 : xIns xg 120 177 = some (.if_icmp .ge 21) := by decide +kernel
theorem i120_198 : xIns xg 120 198 = some (.iconst 0) := by decide +kernel
theorem i120_199 : xIns xg 120 199 = some (.istore_n 1) := by decide +kernel
theorem i120_180 : xIns xg 120 180 = some (.aload_n 0) := by decide +kernel
theorem i120_181 : xIns xg 120 181 = some (.getfield 36) := by decide +kernel
theorem i120_184 : xIns xg 120 184 = some (.iload_n 1) := by decide +kernel
theorem i120_185 : xIns xg 120 185 = some (.aload_n 0) := by decide +kernel
theorem i120_186 : xIns xg 120 186 = some (.getfield 139) := by decide +kernel
theorem i120_189 : xIns xg 120 189 = some (.iload_n 1) := by decide +kernel
theorem i120_190 : xIns xg 120 190 = some (.laload) := by decide +kernel
theorem i120_191 : xIns xg 120 191 = some (.lastore) := by decide +kernel
theorem i120_192 : xIns xg 120 192 = some (.iinc 1 1) := by decide +kernel
theorem i120_195 : xIns xg 120 195 = some (.goto (-22)) := by decide +kernel
theorem i120_38 : xIns xg 120 38 = some (.iload_n 1) := by decide +kernel
theorem i120_39 : xIns xg 120 39 = some (.sipush 192) := by decide +kernel
theorem i120_42 : xIns xg 120 42 = some (.if_icmp .ge 129) := by decide +kernel
theorem i120_171 : xIns xg 120 171 = some (.iconst 0) := by decide +kernel
theorem i120_172 : xIns xg 120 172 = some (.istore_n 1) := by decide +kernel
theorem i120_45 : xIns xg 120 45 = some (.aload_n 0) := by decide +kernel
theorem i120_46 : xIns xg 120 46 = some (.getfield 17) := by decide +kernel
theorem i120_49 : xIns xg 120 49 = some (.iload_n 1) := by decide +kernel
theorem i120_50 : xIns xg 120 50 = some (.aload_n 0) := by decide +kernel
theorem i120_51 : xIns xg 120 51 = some (.getfield 121) := by decide +kernel
theorem i120_54 : xIns xg 120 54 = some (.iload_n 1) := by decide +kernel
theorem i120_55 : xIns xg 120 55 = some (.iaload) := by decide +kernel
theorem i120_56 : xIns xg 120 56 = some (.iastore) := by decide +kernel
theorem i120_57 : xIns xg 120 57 = some (.aload_n 0) := by decide +kernel
theorem i120_58 : xIns xg 120 58 = some (.getfield 20) := by decide +kernel
theorem i120_61 : xIns xg 120 61 = some (.iload_n 1) := by decide +kernel
theorem i120_62 : xIns xg 120 62 = some (.aload_n 0) := by decide +kernel
theorem i120_63 : xIns xg 120 63 = some (.getfield 124) := by decide +kernel
theorem i120_66 : xIns xg 120 66 = some (.iload_n 1) := by decide +kernel
theorem i120_67 : xIns xg 120 67 = some (.iaload) := by decide +kernel
theorem i120_68 : xIns xg 120 68 = some (.iastore) := by decide +kernel
theorem i120_69 : xIns xg 120 69 = some (.aload_n 0) := by decide +kernel
theorem i120_70 : xIns xg 120 70 = some (.getfield 23) := by decide +kernel
theorem i120_73 : xIns xg 120 73 = some (.iload_n 1) := by decide +kernel
theorem i120_74 : xIns xg 120 74 = some (.aload_n 0) := by decide +kernel
theorem i120_75 : xIns xg 120 75 = some (.getfield 127) := by decide +kernel
theorem i120_78 : xIns xg 120 78 = some (.iload_n 1) := by decide +kernel
theorem i120_79 : xIns xg 120 79 = some (.iaload) := by decide +kernel
theorem i120_80 : xIns xg 120 80 = some (.iastore) := by decide +kernel
theorem i120_81 : xIns xg 120 81 = some (.aload_n 0) := by decide +kernel
theorem i120_82 : xIns xg 120 82 = some (.getfield 26) := by decide +kernel
theorem i120_85 : xIns xg 120 85 = some (.iload_n 1) := by decide +kernel
theorem i120_86 : xIns xg 120 86 = some (.aload_n 0) := by decide +kernel
theorem i120_87 : xIns xg 120 87 = some (.getfield 130) := by decide +kernel
theorem i120_90 : xIns xg 120 90 = some (.iload_n 1) := by decide +kernel
theorem i120_91 : xIns xg 120 91 = some (.laload) := by decide +kernel
theorem i120_92 : xIns xg 120 92 = some (.lastore) := by decide +kernel
theorem i120_93 : xIns xg 120 93 = some (.aload_n 0) := by decide +kernel
theorem i120_94 : xIns xg 120 94 = some (.getfield 30) := by decide +kernel
theorem i120_97 : xIns xg 120 97 = some (.iload_n 1) := by decide +kernel
theorem i120_98 : xIns xg 120 98 = some (.aload_n 0) := by decide +kernel
theorem i120_99 : xIns xg 120 99 = some (.getfield 133) := by decide +kernel
theorem i120_102 : xIns xg 120 102 = some (.iload_n 1) := by decide +kernel
theorem i120_103 : xIns xg 120 103 = some (.laload) := by decide +kernel
theorem i120_104 : xIns xg 120 104 = some (.lastore) := by decide +kernel
theorem i120_105 : xIns xg 120 105 = some (.aload_n 0) := by decide +kernel
theorem i120_106 : xIns xg 120 106 = some (.getfield 33) := by decide +kernel
theorem i120_109 : xIns xg 120 109 = some (.iload_n 1) := by decide +kernel
theorem i120_110 : xIns xg 120 110 = some (.aload_n 0) := by decide +kernel
theorem i120_111 : xIns xg 120 111 = some (.getfield 136) := by decide +kernel
theorem i120_114 : xIns xg 120 114 = some (.iload_n 1) := by decide +kernel
theorem i120_115 : xIns xg 120 115 = some (.iaload) := by decide +kernel
theorem i120_116 : xIns xg 120 116 = some (.iastore) := by decide +kernel
theorem i120_117 : xIns xg 120 117 = some (.aload_n 0) := by decide +kernel
theorem i120_118 : xIns xg 120 118 = some (.getfield 42) := by decide +kernel
theorem i120_121 : xIns xg 120 121 = some (.iload_n 1) := by decide +kernel
theorem i120_122 : xIns xg 120 122 = some (.aload_n 0) := by decide +kernel
theorem i120_123 : xIns xg 120 123 = some (.getfield 142) := by decide +kernel
theorem i120_126 : xIns xg 120 126 = some (.iload_n 1) := by decide +kernel
theorem i120_127 : xIns xg 120 127 = some (.iaload) := by decide +kernel
theorem i120_128 : xIns xg 120 128 = some (.iastore) := by decide +kernel
theorem i120_129 : xIns xg 120 129 = some (.aload_n 0) := by decide +kernel
theorem i120_130 : xIns xg 120 130 = some (.getfield 45) := by decide +kernel
theorem i120_133 : xIns xg 120 133 = some (.iload_n 1) := by decide +kernel
theorem i120_134 : xIns xg 120 134 = some (.aload_n 0) := by decide +kernel
theorem i120_135 : xIns xg 120 135 = some (.getfield 145) := by decide +kernel
theorem i120_138 : xIns xg 120 138 = some (.iload_n 1) := by decide +kernel
theorem i120_139 : xIns xg 120 139 = some (.iaload) := by decide +kernel
theorem i120_140 : xIns xg 120 140 = some (.iastore) := by decide +kernel
theorem i120_141 : xIns xg 120 141 = some (.aload_n 0) := by decide +kernel
theorem i120_142 : xIns xg 120 142 = some (.getfield 52) := by decide +kernel
theorem i120_145 : xIns xg 120 145 = some (.iload_n 1) := by decide +kernel
theorem i120_146 : xIns xg 120 146 = some (.aload_n 0) := by decide +kernel
theorem i120_147 : xIns xg 120 147 = some (.getfield 148) := by decide +kernel
theorem i120_150 : xIns xg 120 150 = some (.iload_n 1) := by decide +kernel
theorem i120_151 : xIns xg 120 151 = some (.iaload) := by decide +kernel
theorem i120_152 : xIns xg 120 152 = some (.iastore) := by decide +kernel
theorem i120_153 : xIns xg 120 153 = some (.aload_n 0) := by decide +kernel
theorem i120_154 : xIns xg 120 154 = some (.getfield 55) := by decide +kernel
theorem i120_157 : xIns xg 120 157 = some (.iload_n 1) := by decide +kernel
theorem i120_158 : xIns xg 120 158 = some (.aload_n 0) := by decide +kernel
theorem i120_159 : xIns xg 120 159 = some (.getfield 151) := by decide +kernel
theorem i120_162 : xIns xg 120 162 = some (.iload_n 1) := by decide +kernel
theorem i120_163 : xIns xg 120 163 = some (.iaload) := by decide +kernel
theorem i120_164 : xIns xg 120 164 = some (.iastore) := by decide +kernel
theorem i120_165 : xIns xg 120 165 = some (.iinc 1 1) := by decide +kernel
theorem i120_168 : xIns xg 120 168 = some (.goto (-130)) := by decide +kernel
theorem i120_12 : xIns xg 120 12 = some (.iload_n 1) := by decide +kernel
theorem i120_13 : xIns xg 120 13 = some (.bipush 8) := by decide +kernel
theorem i120_15 : xIns xg 120 15 = some (.if_icmp .ge 21) := by decide +kernel
theorem i120_36 : xIns xg 120 36 = some (.iconst 0) := by decide +kernel
theorem i120_37 : xIns xg 120 37 = some (.istore_n 1) := by decide +kernel
theorem i120_18 : xIns xg 120 18 = some (.aload_n 0) := by decide +kernel
theorem i120_19 : xIns xg 120 19 = some (.getfield 13) := by decide +kernel
theorem i120_22 : xIns xg 120 22 = some (.iload_n 1) := by decide +kernel
theorem i120_23 : xIns xg 120 23 = some (.aload_n 0) := by decide +kernel
theorem i120_24 : xIns xg 120 24 = some (.getfield 118) := by decide +kernel
theorem i120_27 : xIns xg 120 27 = some (.iload_n 1) := by decide +kernel
theorem i120_28 : xIns xg 120 28 = some (.iaload) := by decide +kernel
theorem i120_29 : xIns xg 120 29 = some (.iastore) := by decide +kernel
theorem i120_30 : xIns xg 120 30 = some (.iinc 1 1) := by decide +kernel
theorem i120_33 : xIns xg 120 33 = some (.goto (-21)) := by decide +kernel
theorem i120_0 : xIns xg 120 0 = some (.aload_n 0) := by decide +kernel
theorem i120_1 : xIns xg 120 1 = some (.getfield 419) := by decide +kernel
theorem i120_4 : xIns xg 120 4 = some (.ifCond .ne 6) := by decide +kernel
theorem i120_10 : xIns xg 120 10 = some (.iconst 0) := by decide +kernel
theorem i120_11 : xIns xg 120 11 = some (.istore_n 1) := by decide +kernel
theorem i120_7 : xIns xg 120 7 = some (.bipush (-3)) := by decide +kernel
theorem i120_9 : xIns xg 120 9 = some (.ireturn) := by decide +kernel
def d_x8_back_200 (N : Nat)  (k200 : St → Int → Option Rs) (s : St) (x1 : Int) : Option Rs :=
  (if (w32 x1) < 12288 then if 0 ≤ (w32 x1) ∧ (w32 x1) < ((12288 : Nat) : Int) then if 0 ≤ (w32 x1) ∧ (w32 x1) < ((12288 : Nat) : Int) then bd (up s 91 (Int.toNat (w32 x1)) (s 123 (Int.toNat (w32 x1)))) fun s4 => if 0 ≤ (w32 x1) ∧ (w32 x1) < ((12288 : Nat) : Int) then if 0 ≤ (w32 x1) ∧ (w32 x1) < ((12288 : Nat) : Int) then bd (up s4 92 (Int.toNat (w32 x1)) (s4 124 (Int.toNat (w32 x1)))) fun s5 => if 0 ≤ (w32 x1) ∧ (w32 x1) < ((12288 : Nat) : Int) then if 0 ≤ (w32 x1) ∧ (w32 x1) < ((12288 : Nat) : Int) then bd (up s5 93 (Int.toNat (w32 x1)) (s5 125 (Int.toNat (w32 x1)))) fun s6 => bd (x1 + 1) fun v7 => k200 s6 v7 else none else none else none else none else none else none else bd (up s 77 9 (s 77 63)) fun s1 => bI (d_x8_full N  s1 ) fun s2 v3 => some (s2, v3))
def d_x8_back_200L (N : Nat)  : Nat → St → Int → Option Rs
  | 0 => fun _ _ => none
  | n + 1 => d_x8_back_200 N  (d_x8_back_200L N  n)
set_option maxHeartbeats 4000000 in
set_option maxRecDepth 100000 in
theorem c_x8_back_200 {sc : xS} {d : Nat} {R : Rs} (N : Nat)  (hd : 1 ≤ d)   (k200 : St → Int → Option Rs) (hk200 : ∀ (s : St) (x1 : Int), k200 s x1 = some R → vT sc d 120 200 [(0, .ref 77), (1, vi x1)] [] s (fun r => r = qI R)) (s : St) (x1 : Int) : d_x8_back_200 N  k200 s x1 = some R → vT sc d 120 200 [(0, .ref 77), (1, vi x1)] [] s (fun r => r = qI R) := by
  obtain ⟨d, rfl⟩ : ∃ d', d = d' + 1 := ⟨d - 1, by omega⟩
  unfold d_x8_back_200
  refine vLin 201 i120_200 rfl rfl ?_
  refine vKs 204 i120_201 (by decide) rfl ?_
  refine vCge 249 207 rfl (show w32 12288 = 12288 from rfl) i120_204 rfl rfl ?_ ?_
  · refine vLan 250 i120_249 rfl rfl ?_
    refine vLan 251 i120_250 rfl rfl ?_
    refine vGet 254 i120_251 f120_416 sh_77 rfl rfl ?_
    refine vPut 257 i120_254 p120_39 sh_77 rfl rfl (fun s1 => ?_)
    refine vLan 258 i120_257 rfl rfl ?_
    refine vCallI 261 [.ref 77] [] [(0, .ref 77)] i120_258 rfl (xlk0 l120_422) (Or.inl rfl) m136 rfl rfl (Nat.le_of_ble_eq_true rfl) (Nat.le_of_ble_eq_true rfl) (Nat.le_of_ble_eq_true rfl) (xh0 sh_77 (by decide)) rfl rfl (fun R1 => c_x8_full N   (by omega) s1 ) (fun s2 v3 => ?_)
    exact vRi i120_261 m120 rfl
  · refine vLan 208 i120_207 rfl rfl ?_
    refine vGetC 211 i120_208 f120_58 sh_77 rfl rfl ?_
    refine vLin 212 i120_211 rfl rfl ?_
    refine vLan 213 i120_212 rfl rfl ?_
    refine vGetC 216 i120_213 f120_154 sh_77 rfl rfl ?_
    refine vLin 217 i120_216 rfl rfl ?_
    refine vIal 218 rfl i120_217 sh_123 rfl ?_
    refine vIas 219 rfl i120_218 sh_91 rfl (fun s4 => ?_)
    refine vLan 220 i120_219 rfl rfl ?_
    refine vGetC 223 i120_220 f120_61 sh_77 rfl rfl ?_
    refine vLin 224 i120_223 rfl rfl ?_
    refine vLan 225 i120_224 rfl rfl ?_
    refine vGetC 228 i120_225 f120_157 sh_77 rfl rfl ?_
    refine vLin 229 i120_228 rfl rfl ?_
    refine vLal 230 rfl i120_229 sh_124 rfl ?_
    refine vLas 231 rfl i120_230 sh_92 rfl (fun s5 => ?_)
    refine vLan 232 i120_231 rfl rfl ?_
    refine vGetC 235 i120_232 f120_64 sh_77 rfl rfl ?_
    refine vLin 236 i120_235 rfl rfl ?_
    refine vLan 237 i120_236 rfl rfl ?_
    refine vGetC 240 i120_237 f120_160 sh_77 rfl rfl ?_
    refine vLin 241 i120_240 rfl rfl ?_
    refine vIal 242 rfl i120_241 sh_125 rfl ?_
    refine vIas 243 rfl i120_242 sh_93 rfl (fun s6 => ?_)
    refine vInc 246 (fun v7 => [(1, vi v7), (0, .ref 77)]) i120_243 m120 (by decide) rfl (fun _ => rfl) rfl (fun v7 => ?_)
    refine vGo 200 i120_246 rfl ?_
    exact fun hD => tLc [(0, .ref 77), (1, vi v7)] (xNdk [0, 1] rfl (by decide)) (xNdk [1, 0] rfl (by decide)) ⟨rfl, rfl, trivial⟩ (hk200 s6 v7 hD)
theorem c_x8_back_200L {sc : xS} {d : Nat} {R : Rs} (N : Nat)  (hd : 1 ≤ d)   : ∀ (n : Nat) (s : St) (x1 : Int), d_x8_back_200L N  n s x1 = some R → vT sc d 120 200 [(0, .ref 77), (1, vi x1)] [] s (fun r => r = qI R) := by
  intro n
  induction n with
  | zero => intro s x1 hD; cases hD
  | succ n ih => intro s x1 hD; exact c_x8_back_200 N  hd  _ ih s x1 hD
def d_x8_back_173 (N : Nat)  (k173 : St → Int → Option Rs) (s : St) (x1 : Int) : Option Rs :=
  (if (w32 x1) < 1536 then if 0 ≤ (w32 x1) ∧ (w32 x1) < ((1536 : Nat) : Int) then if 0 ≤ (w32 x1) ∧ (w32 x1) < ((1536 : Nat) : Int) then bd (up s 85 (Int.toNat (w32 x1)) (s 118 (Int.toNat (w32 x1)))) fun s8 => bd (x1 + 1) fun v9 => k173 s8 v9 else none else none else d_x8_back_200L N  N s 0)
def d_x8_back_173L (N : Nat)  : Nat → St → Int → Option Rs
  | 0 => fun _ _ => none
  | n + 1 => d_x8_back_173 N  (d_x8_back_173L N  n)
set_option maxHeartbeats 4000000 in
set_option maxRecDepth 100000 in
theorem c_x8_back_173 {sc : xS} {d : Nat} {R : Rs} (N : Nat)  (hd : 1 ≤ d)   (k173 : St → Int → Option Rs) (hk173 : ∀ (s : St) (x1 : Int), k173 s x1 = some R → vT sc d 120 173 [(0, .ref 77), (1, vi x1)] [] s (fun r => r = qI R)) (s : St) (x1 : Int) : d_x8_back_173 N  k173 s x1 = some R → vT sc d 120 173 [(0, .ref 77), (1, vi x1)] [] s (fun r => r = qI R) := by
  obtain ⟨d, rfl⟩ : ∃ d', d = d' + 1 := ⟨d - 1, by omega⟩
  unfold d_x8_back_173
  refine vLin 174 i120_173 rfl rfl ?_
  refine vKs 177 i120_174 (by decide) rfl ?_
  refine vCge 198 180 rfl (show w32 1536 = 1536 from rfl) i120_177 rfl rfl ?_ ?_
  · refine vK 199 i120_198 rfl ?_
    refine vSin0 200 [(1, vi 0), (0, .ref 77)] i120_199 m120 (by decide) rfl rfl ?_
    exact fun hD => tLc [(0, .ref 77), (1, vi 0)] (xNdk [0, 1] rfl (by decide)) (xNdk [1, 0] rfl (by decide)) ⟨rfl, rfl, trivial⟩ (c_x8_back_200L N  hd  N s 0 hD)
  · refine vLan 181 i120_180 rfl rfl ?_
    refine vGetC 184 i120_181 f120_36 sh_77 rfl rfl ?_
    refine vLin 185 i120_184 rfl rfl ?_
    refine vLan 186 i120_185 rfl rfl ?_
    refine vGetC 189 i120_186 f120_139 sh_77 rfl rfl ?_
    refine vLin 190 i120_189 rfl rfl ?_
    refine vLal 191 rfl i120_190 sh_118 rfl ?_
    refine vLas 192 rfl i120_191 sh_85 rfl (fun s8 => ?_)
    refine vInc 195 (fun v9 => [(1, vi v9), (0, .ref 77)]) i120_192 m120 (by decide) rfl (fun _ => rfl) rfl (fun v9 => ?_)
    refine vGo 173 i120_195 rfl ?_
    exact fun hD => tLc [(0, .ref 77), (1, vi v9)] (xNdk [0, 1] rfl (by decide)) (xNdk [1, 0] rfl (by decide)) ⟨rfl, rfl, trivial⟩ (hk173 s8 v9 hD)
theorem c_x8_back_173L {sc : xS} {d : Nat} {R : Rs} (N : Nat)  (hd : 1 ≤ d)   : ∀ (n : Nat) (s : St) (x1 : Int), d_x8_back_173L N  n s x1 = some R → vT sc d 120 173 [(0, .ref 77), (1, vi x1)] [] s (fun r => r = qI R) := by
  intro n
  induction n with
  | zero => intro s x1 hD; cases hD
  | succ n ih => intro s x1 hD; exact c_x8_back_173 N  hd  _ ih s x1 hD
def d_x8_back_38 (N : Nat)  (k38 : St → Int → Option Rs) (s : St) (x1 : Int) : Option Rs :=
  (if (w32 x1) < 192 then if 0 ≤ (w32 x1) ∧ (w32 x1) < ((192 : Nat) : Int) then if 0 ≤ (w32 x1) ∧ (w32 x1) < ((192 : Nat) : Int) then bd (up s 79 (Int.toNat (w32 x1)) (s 112 (Int.toNat (w32 x1)))) fun s10 => if 0 ≤ (w32 x1) ∧ (w32 x1) < ((192 : Nat) : Int) then if 0 ≤ (w32 x1) ∧ (w32 x1) < ((192 : Nat) : Int) then bd (up s10 80 (Int.toNat (w32 x1)) (s10 113 (Int.toNat (w32 x1)))) fun s11 => if 0 ≤ (w32 x1) ∧ (w32 x1) < ((192 : Nat) : Int) then if 0 ≤ (w32 x1) ∧ (w32 x1) < ((192 : Nat) : Int) then bd (up s11 81 (Int.toNat (w32 x1)) (s11 114 (Int.toNat (w32 x1)))) fun s12 => if 0 ≤ (w32 x1) ∧ (w32 x1) < ((192 : Nat) : Int) then if 0 ≤ (w32 x1) ∧ (w32 x1) < ((192 : Nat) : Int) then bd (up s12 82 (Int.toNat (w32 x1)) (s12 115 (Int.toNat (w32 x1)))) fun s13 => if 0 ≤ (w32 x1) ∧ (w32 x1) < ((192 : Nat) : Int) then if 0 ≤ (w32 x1) ∧ (w32 x1) < ((192 : Nat) : Int) then bd (up s13 83 (Int.toNat (w32 x1)) (s13 116 (Int.toNat (w32 x1)))) fun s14 => if 0 ≤ (w32 x1) ∧ (w32 x1) < ((192 : Nat) : Int) then if 0 ≤ (w32 x1) ∧ (w32 x1) < ((192 : Nat) : Int) then bd (up s14 84 (Int.toNat (w32 x1)) (s14 117 (Int.toNat (w32 x1)))) fun s15 => if 0 ≤ (w32 x1) ∧ (w32 x1) < ((192 : Nat) : Int) then if 0 ≤ (w32 x1) ∧ (w32 x1) < ((192 : Nat) : Int) then bd (up s15 86 (Int.toNat (w32 x1)) (s15 119 (Int.toNat (w32 x1)))) fun s16 => if 0 ≤ (w32 x1) ∧ (w32 x1) < ((192 : Nat) : Int) then if 0 ≤ (w32 x1) ∧ (w32 x1) < ((192 : Nat) : Int) then bd (up s16 87 (Int.toNat (w32 x1)) (s16 120 (Int.toNat (w32 x1)))) fun s17 => if 0 ≤ (w32 x1) ∧ (w32 x1) < ((192 : Nat) : Int) then if 0 ≤ (w32 x1) ∧ (w32 x1) < ((192 : Nat) : Int) then bd (up s17 89 (Int.toNat (w32 x1)) (s17 121 (Int.toNat (w32 x1)))) fun s18 => if 0 ≤ (w32 x1) ∧ (w32 x1) < ((192 : Nat) : Int) then if 0 ≤ (w32 x1) ∧ (w32 x1) < ((192 : Nat) : Int) then bd (up s18 90 (Int.toNat (w32 x1)) (s18 122 (Int.toNat (w32 x1)))) fun s19 => bd (x1 + 1) fun v20 => k38 s19 v20 else none else none else none else none else none else none else none else none else none else none else none else none else none else none else none else none else none else none else none else none else d_x8_back_173L N  N s 0)
def d_x8_back_38L (N : Nat)  : Nat → St → Int → Option Rs
  | 0 => fun _ _ => none
  | n + 1 => d_x8_back_38 N  (d_x8_back_38L N  n)
set_option maxHeartbeats 4000000 in
set_option maxRecDepth 100000 in
theorem c_x8_back_38 {sc : xS} {d : Nat} {R : Rs} (N : Nat)  (hd : 1 ≤ d)   (k38 : St → Int → Option Rs) (hk38 : ∀ (s : St) (x1 : Int), k38 s x1 = some R → vT sc d 120 38 [(0, .ref 77), (1, vi x1)] [] s (fun r => r = qI R)) (s : St) (x1 : Int) : d_x8_back_38 N  k38 s x1 = some R → vT sc d 120 38 [(0, .ref 77), (1, vi x1)] [] s (fun r => r = qI R) := by
  obtain ⟨d, rfl⟩ : ∃ d', d = d' + 1 := ⟨d - 1, by omega⟩
  unfold d_x8_back_38
  refine vLin 39 i120_38 rfl rfl ?_
  refine vKs 42 i120_39 (by decide) rfl ?_
  refine vCge 171 45 rfl (show w32 192 = 192 from rfl) i120_42 rfl rfl ?_ ?_
  · refine vK 172 i120_171 rfl ?_
    refine vSin0 173 [(1, vi 0), (0, .ref 77)] i120_172 m120 (by decide) rfl rfl ?_
    exact fun hD => tLc [(0, .ref 77), (1, vi 0)] (xNdk [0, 1] rfl (by decide)) (xNdk [1, 0] rfl (by decide)) ⟨rfl, rfl, trivial⟩ (c_x8_back_173L N  hd  N s 0 hD)
  · refine vLan 46 i120_45 rfl rfl ?_
    refine vGetC 49 i120_46 f120_17 sh_77 rfl rfl ?_
    refine vLin 50 i120_49 rfl rfl ?_
    refine vLan 51 i120_50 rfl rfl ?_
    refine vGetC 54 i120_51 f120_121 sh_77 rfl rfl ?_
    refine vLin 55 i120_54 rfl rfl ?_
    refine vIal 56 rfl i120_55 sh_112 rfl ?_
    refine vIas 57 rfl i120_56 sh_79 rfl (fun s10 => ?_)
    refine vLan 58 i120_57 rfl rfl ?_
    refine vGetC 61 i120_58 f120_20 sh_77 rfl rfl ?_
    refine vLin 62 i120_61 rfl rfl ?_
    refine vLan 63 i120_62 rfl rfl ?_
    refine vGetC 66 i120_63 f120_124 sh_77 rfl rfl ?_
    refine vLin 67 i120_66 rfl rfl ?_
    refine vIal 68 rfl i120_67 sh_113 rfl ?_
    refine vIas 69 rfl i120_68 sh_80 rfl (fun s11 => ?_)
    refine vLan 70 i120_69 rfl rfl ?_
    refine vGetC 73 i120_70 f120_23 sh_77 rfl rfl ?_
    refine vLin 74 i120_73 rfl rfl ?_
    refine vLan 75 i120_74 rfl rfl ?_
    refine vGetC 78 i120_75 f120_127 sh_77 rfl rfl ?_
    refine vLin 79 i120_78 rfl rfl ?_
    refine vIal 80 rfl i120_79 sh_114 rfl ?_
    refine vIas 81 rfl i120_80 sh_81 rfl (fun s12 => ?_)
    refine vLan 82 i120_81 rfl rfl ?_
    refine vGetC 85 i120_82 f120_26 sh_77 rfl rfl ?_
    refine vLin 86 i120_85 rfl rfl ?_
    refine vLan 87 i120_86 rfl rfl ?_
    refine vGetC 90 i120_87 f120_130 sh_77 rfl rfl ?_
    refine vLin 91 i120_90 rfl rfl ?_
    refine vLal 92 rfl i120_91 sh_115 rfl ?_
    refine vLas 93 rfl i120_92 sh_82 rfl (fun s13 => ?_)
    refine vLan 94 i120_93 rfl rfl ?_
    refine vGetC 97 i120_94 f120_30 sh_77 rfl rfl ?_
    refine vLin 98 i120_97 rfl rfl ?_
    refine vLan 99 i120_98 rfl rfl ?_
    refine vGetC 102 i120_99 f120_133 sh_77 rfl rfl ?_
    refine vLin 103 i120_102 rfl rfl ?_
    refine vLal 104 rfl i120_103 sh_116 rfl ?_
    refine vLas 105 rfl i120_104 sh_83 rfl (fun s14 => ?_)
    refine vLan 106 i120_105 rfl rfl ?_
    refine vGetC 109 i120_106 f120_33 sh_77 rfl rfl ?_
    refine vLin 110 i120_109 rfl rfl ?_
    refine vLan 111 i120_110 rfl rfl ?_
    refine vGetC 114 i120_111 f120_136 sh_77 rfl rfl ?_
    refine vLin 115 i120_114 rfl rfl ?_
    refine vIal 116 rfl i120_115 sh_117 rfl ?_
    refine vIas 117 rfl i120_116 sh_84 rfl (fun s15 => ?_)
    refine vLan 118 i120_117 rfl rfl ?_
    refine vGetC 121 i120_118 f120_42 sh_77 rfl rfl ?_
    refine vLin 122 i120_121 rfl rfl ?_
    refine vLan 123 i120_122 rfl rfl ?_
    refine vGetC 126 i120_123 f120_142 sh_77 rfl rfl ?_
    refine vLin 127 i120_126 rfl rfl ?_
    refine vIal 128 rfl i120_127 sh_119 rfl ?_
    refine vIas 129 rfl i120_128 sh_86 rfl (fun s16 => ?_)
    refine vLan 130 i120_129 rfl rfl ?_
    refine vGetC 133 i120_130 f120_45 sh_77 rfl rfl ?_
    refine vLin 134 i120_133 rfl rfl ?_
    refine vLan 135 i120_134 rfl rfl ?_
    refine vGetC 138 i120_135 f120_145 sh_77 rfl rfl ?_
    refine vLin 139 i120_138 rfl rfl ?_
    refine vIal 140 rfl i120_139 sh_120 rfl ?_
    refine vIas 141 rfl i120_140 sh_87 rfl (fun s17 => ?_)
    refine vLan 142 i120_141 rfl rfl ?_
    refine vGetC 145 i120_142 f120_52 sh_77 rfl rfl ?_
    refine vLin 146 i120_145 rfl rfl ?_
    refine vLan 147 i120_146 rfl rfl ?_
    refine vGetC 150 i120_147 f120_148 sh_77 rfl rfl ?_
    refine vLin 151 i120_150 rfl rfl ?_
    refine vIal 152 rfl i120_151 sh_121 rfl ?_
    refine vIas 153 rfl i120_152 sh_89 rfl (fun s18 => ?_)
    refine vLan 154 i120_153 rfl rfl ?_
    refine vGetC 157 i120_154 f120_55 sh_77 rfl rfl ?_
    refine vLin 158 i120_157 rfl rfl ?_
    refine vLan 159 i120_158 rfl rfl ?_
    refine vGetC 162 i120_159 f120_151 sh_77 rfl rfl ?_
    refine vLin 163 i120_162 rfl rfl ?_
    refine vIal 164 rfl i120_163 sh_122 rfl ?_
    refine vIas 165 rfl i120_164 sh_90 rfl (fun s19 => ?_)
    refine vInc 168 (fun v20 => [(1, vi v20), (0, .ref 77)]) i120_165 m120 (by decide) rfl (fun _ => rfl) rfl (fun v20 => ?_)
    refine vGo 38 i120_168 rfl ?_
    exact fun hD => tLc [(0, .ref 77), (1, vi v20)] (xNdk [0, 1] rfl (by decide)) (xNdk [1, 0] rfl (by decide)) ⟨rfl, rfl, trivial⟩ (hk38 s19 v20 hD)
theorem c_x8_back_38L {sc : xS} {d : Nat} {R : Rs} (N : Nat)  (hd : 1 ≤ d)   : ∀ (n : Nat) (s : St) (x1 : Int), d_x8_back_38L N  n s x1 = some R → vT sc d 120 38 [(0, .ref 77), (1, vi x1)] [] s (fun r => r = qI R) := by
  intro n
  induction n with
  | zero => intro s x1 hD; cases hD
  | succ n ih => intro s x1 hD; exact c_x8_back_38 N  hd  _ ih s x1 hD
def d_x8_back_12 (N : Nat)  (k12 : St → Int → Option Rs) (s : St) (x1 : Int) : Option Rs :=
  (if (w32 x1) < 8 then if 0 ≤ (w32 x1) ∧ (w32 x1) < ((8 : Nat) : Int) then if 0 ≤ (w32 x1) ∧ (w32 x1) < ((8 : Nat) : Int) then bd (up s 78 (Int.toNat (w32 x1)) (s 111 (Int.toNat (w32 x1)))) fun s21 => bd (x1 + 1) fun v22 => k12 s21 v22 else none else none else d_x8_back_38L N  N s 0)
def d_x8_back_12L (N : Nat)  : Nat → St → Int → Option Rs
  | 0 => fun _ _ => none
  | n + 1 => d_x8_back_12 N  (d_x8_back_12L N  n)
set_option maxHeartbeats 4000000 in
set_option maxRecDepth 100000 in
theorem c_x8_back_12 {sc : xS} {d : Nat} {R : Rs} (N : Nat)  (hd : 1 ≤ d)   (k12 : St → Int → Option Rs) (hk12 : ∀ (s : St) (x1 : Int), k12 s x1 = some R → vT sc d 120 12 [(0, .ref 77), (1, vi x1)] [] s (fun r => r = qI R)) (s : St) (x1 : Int) : d_x8_back_12 N  k12 s x1 = some R → vT sc d 120 12 [(0, .ref 77), (1, vi x1)] [] s (fun r => r = qI R) := by
  obtain ⟨d, rfl⟩ : ∃ d', d = d' + 1 := ⟨d - 1, by omega⟩
  unfold d_x8_back_12
  refine vLin 13 i120_12 rfl rfl ?_
  refine vKb 15 i120_13 (by decide) rfl ?_
  refine vCge 36 18 rfl (show w32 8 = 8 from rfl) i120_15 rfl rfl ?_ ?_
  · refine vK 37 i120_36 rfl ?_
    refine vSin0 38 [(1, vi 0), (0, .ref 77)] i120_37 m120 (by decide) rfl rfl ?_
    exact fun hD => tLc [(0, .ref 77), (1, vi 0)] (xNdk [0, 1] rfl (by decide)) (xNdk [1, 0] rfl (by decide)) ⟨rfl, rfl, trivial⟩ (c_x8_back_38L N  hd  N s 0 hD)
  · refine vLan 19 i120_18 rfl rfl ?_
    refine vGetC 22 i120_19 f120_13 sh_77 rfl rfl ?_
    refine vLin 23 i120_22 rfl rfl ?_
    refine vLan 24 i120_23 rfl rfl ?_
    refine vGetC 27 i120_24 f120_118 sh_77 rfl rfl ?_
    refine vLin 28 i120_27 rfl rfl ?_
    refine vIal 29 rfl i120_28 sh_111 rfl ?_
    refine vIas 30 rfl i120_29 sh_78 rfl (fun s21 => ?_)
    refine vInc 33 (fun v22 => [(1, vi v22), (0, .ref 77)]) i120_30 m120 (by decide) rfl (fun _ => rfl) rfl (fun v22 => ?_)
    refine vGo 12 i120_33 rfl ?_
    exact fun hD => tLc [(0, .ref 77), (1, vi v22)] (xNdk [0, 1] rfl (by decide)) (xNdk [1, 0] rfl (by decide)) ⟨rfl, rfl, trivial⟩ (hk12 s21 v22 hD)
theorem c_x8_back_12L {sc : xS} {d : Nat} {R : Rs} (N : Nat)  (hd : 1 ≤ d)   : ∀ (n : Nat) (s : St) (x1 : Int), d_x8_back_12L N  n s x1 = some R → vT sc d 120 12 [(0, .ref 77), (1, vi x1)] [] s (fun r => r = qI R) := by
  intro n
  induction n with
  | zero => intro s x1 hD; cases hD
  | succ n ih => intro s x1 hD; exact c_x8_back_12 N  hd  _ ih s x1 hD
def d_x8_back (N : Nat)  (s : St)  : Option Rs :=
  (if (w32 (s 77 64)) = 0 then some (s, (-3)) else d_x8_back_12L N  N s 0)
set_option maxHeartbeats 4000000 in
set_option maxRecDepth 100000 in
theorem c_x8_back {sc : xS} {d : Nat} {R : Rs} (N : Nat)  (hd : 1 ≤ d)   (s : St)  : d_x8_back N  s  = some R → vT sc d 120 0 [(0, .ref 77)] [] s (fun r => r = qI R) := by
  obtain ⟨d, rfl⟩ : ∃ d', d = d' + 1 := ⟨d - 1, by omega⟩
  unfold d_x8_back
  refine vLan 1 i120_0 rfl rfl ?_
  refine vGet 4 i120_1 f120_419 sh_77 rfl rfl ?_
  refine vZne 10 7 rfl i120_4 rfl rfl ?_ ?_
  · refine vK 11 i120_10 rfl ?_
    refine vSin0 12 [(1, vi 0), (0, .ref 77)] i120_11 m120 (by decide) rfl rfl ?_
    exact fun hD => tLc [(0, .ref 77), (1, vi 0)] (xNdk [0, 1] rfl (by decide)) (xNdk [1, 0] rfl (by decide)) ⟨rfl, rfl, trivial⟩ (c_x8_back_12L N  hd  N s 0 hD)
  · refine vKb 9 i120_7 (by decide) rfl ?_
    exact vRi i120_9 m120 rfl
