def grw (N : Nat)  : Nat → St → Option Rs
  | 0 => fun _  => none
  | n + 1 => d_x8_row N (grw N  n) 
theorem grw_ok {sc : xS} (N : Nat)   : ∀ n d, 8 * n ≤ d → (∀ (s : St)  (R : Rs), grw N  n s  = some R → vT sc d 182 0 [(0, .ref 77)] [] s (fun r => r = qV R)) := by
  intro n
  induction n with
  | zero => intro d hd s R h; cases h
  | succ n ih =>
    intro d hd s R h
    exact c_x8_row N _  (8 * n) (fun d' h' => ih d' h')  (by omega) s h
theorem f195_42 : xFld xg 195 42 = some (7, 10) := by decide +kernel
theorem f195_45 : xFld xg 195 45 = some (7, 11) := by decide +kernel
theorem f195_48 : xFld xg 195 48 = some (7, 12) := by decide +kernel
theorem f195_52 : xFld xg 195 52 = some (7, 13) := by decide +kernel
theorem f195_55 : xFld xg 195 55 = some (7, 14) := by decide +kernel
theorem f195_58 : xFld xg 195 58 = some (7, 15) := by decide +kernel
theorem i195_46 : xIns xg 195 46 = some (.iload_n 2) := by decide +kernel
theorem i195_47 : xIns xg 195 47 = some (.bipush 64) := by decide +kernel
theorem i195_49 : xIns xg 195 49 = some (.if_icmp .ge 21) := by decide +kernel
theorem i195_70 : xIns xg 195 70 = some (.iinc 1 1) := by decide +kernel
theorem m195 : (xMet xg 195).2.2 = (3, none) := by decide +kernel
theorem i195_73 : xIns xg 195 73 = some (.goto (-71)) := by decide +kernel
theorem i195_52 : xIns xg 195 52 = some (.aload_n 0) := by decide +kernel
theorem i195_53 : xIns xg 195 53 = some (.getfield 58) := by decide +kernel
theorem i195_56 : xIns xg 195 56 = some (.bipush 64) := by decide +kernel
theorem i195_58 : xIns xg 195 58 = some (.iload_n 1) := by decide +kernel
theorem i195_59 : xIns xg 195 59 = some (.imul) := by decide +kernel
theorem i195_60 : xIns xg 195 60 = some (.iload_n 2) := by decide +kernel
theorem i195_61 : xIns xg 195 61 = some (.iadd) := by decide +kernel
theorem i195_62 : xIns xg 195 62 = some (.iconst 0) := by decide +kernel
theorem i195_63 : xIns xg 195 63 = some (.iastore) := by decide +kernel
theorem i195_64 : xIns xg 195 64 = some (.iinc 2 1) := by decide +kernel
theorem i195_67 : xIns xg 195 67 = some (.goto (-21)) := by decide +kernel
theorem i195_2 : xIns xg 195 2 = some (.iload_n 1) := by decide +kernel
theorem i195_3 : xIns xg 195 3 = some (.sipush 192) := by decide +kernel
theorem i195_6 : xIns xg 195 6 = some (.if_icmp .ge 70) := by decide +kernel
theorem i195_76 : xIns xg 195 76 = some (.return_) := by decide +kernel
theorem i195_9 : xIns xg 195 9 = some (.aload_n 0) := by decide +kernel
theorem i195_10 : xIns xg 195 10 = some (.getfield 42) := by decide +kernel
theorem i195_13 : xIns xg 195 13 = some (.iload_n 1) := by decide +kernel
theorem i195_14 : xIns xg 195 14 = some (.iconst 0) := by decide +kernel
theorem i195_15 : xIns xg 195 15 = some (.iastore) := by decide +kernel
theorem i195_16 : xIns xg 195 16 = some (.aload_n 0) := by decide +kernel
theorem i195_17 : xIns xg 195 17 = some (.getfield 45) := by decide +kernel
theorem i195_20 : xIns xg 195 20 = some (.iload_n 1) := by decide +kernel
theorem i195_21 : xIns xg 195 21 = some (.iconst 0) := by decide +kernel
theorem i195_22 : xIns xg 195 22 = some (.iastore) := by decide +kernel
theorem i195_23 : xIns xg 195 23 = some (.aload_n 0) := by decide +kernel
theorem i195_24 : xIns xg 195 24 = some (.getfield 48) := by decide +kernel
theorem i195_27 : xIns xg 195 27 = some (.iload_n 1) := by decide +kernel
theorem i195_28 : xIns xg 195 28 = some (.iconst 0) := by decide +kernel
theorem i195_29 : xIns xg 195 29 = some (.bastore) := by decide +kernel
theorem i195_30 : xIns xg 195 30 = some (.aload_n 0) := by decide +kernel
theorem i195_31 : xIns xg 195 31 = some (.getfield 52) := by decide +kernel
theorem i195_34 : xIns xg 195 34 = some (.iload_n 1) := by decide +kernel
theorem i195_35 : xIns xg 195 35 = some (.iconst 0) := by decide +kernel
theorem i195_36 : xIns xg 195 36 = some (.iastore) := by decide +kernel
theorem i195_37 : xIns xg 195 37 = some (.aload_n 0) := by decide +kernel
theorem i195_38 : xIns xg 195 38 = some (.getfield 55) := by decide +kernel
theorem i195_41 : xIns xg 195 41 = some (.iload_n 1) := by decide +kernel
theorem i195_42 : xIns xg 195 42 = some (.iconst 0) := by decide +kernel
theorem i195_43 : xIns xg 195 43 = some (.iastore) := by decide +kernel
theorem i195_44 : xIns xg 195 44 = some (.iconst 0) := by decide +kernel
theorem i195_45 : xIns xg 195 45 = some (.istore_n 2) := by decide +kernel
theorem i195_0 : xIns xg 195 0 = some (.iconst 0) := by decide +kernel
theorem i195_1 : xIns xg 195 1 = some (.istore_n 1) := by decide +kernel
def d_x8_untells_46 (N : Nat) (k2 : St → Int → Option Rs) (k46 : St → Int → Int → Option Rs) (s : St) (x1 : Int) (x2 : Int) : Option Rs :=
  (if (w32 x2) < 64 then if 0 ≤ (w32 ((64 * x1) + x2)) ∧ (w32 ((64 * x1) + x2)) < ((12288 : Nat) : Int) then bd (up s 91 (Int.toNat (w32 ((64 * x1) + x2))) 0) fun s2 => bd (x2 + 1) fun v3 => k46 s2 x1 v3 else none else bd (x1 + 1) fun v1 => k2 s v1)
def d_x8_untells_46L (N : Nat) (k2 : St → Int → Option Rs) : Nat → St → Int → Int → Option Rs
  | 0 => fun _ _ _ => none
  | n + 1 => d_x8_untells_46 N k2 (d_x8_untells_46L N k2 n)
set_option maxHeartbeats 4000000 in
set_option maxRecDepth 100000 in
theorem c_x8_untells_46 {sc : xS} {d : Nat} {R : Rs} (N : Nat)  (hd : 0 ≤ d) (k2 : St → Int → Option Rs) (hk2 : ∀ (s : St) (x1 : Int), k2 s x1 = some R → vT sc d 195 2 [(0, .ref 77), (1, vi x1)] [] s (fun r => r = qV R))  (k46 : St → Int → Int → Option Rs) (hk46 : ∀ (s : St) (x1 : Int) (x2 : Int), k46 s x1 x2 = some R → vT sc d 195 46 [(0, .ref 77), (1, vi x1), (2, vi x2)] [] s (fun r => r = qV R)) (s : St) (x1 : Int) (x2 : Int) : d_x8_untells_46 N k2 k46 s x1 x2 = some R → vT sc d 195 46 [(0, .ref 77), (1, vi x1), (2, vi x2)] [] s (fun r => r = qV R) := by
  unfold d_x8_untells_46
  refine vLin 47 i195_46 rfl rfl ?_
  refine vKb 49 i195_47 (by decide) rfl ?_
  refine vCge 70 52 rfl (show w32 64 = 64 from rfl) i195_49 rfl rfl ?_ ?_
  · refine vInc 73 (fun v1 => [(1, vi v1), (0, .ref 77), (2, vi x2)]) i195_70 m195 (by decide) rfl (fun _ => rfl) rfl (fun v1 => ?_)
    refine vGo 2 i195_73 rfl ?_
    exact fun hD => tLc [(0, .ref 77), (1, vi v1)] (xNdk [0, 1] rfl (by decide)) (xNdk [1, 0, 2] rfl (by decide)) ⟨rfl, rfl, trivial⟩ (hk2 s v1 hD)
  · refine vLan 53 i195_52 rfl rfl ?_
    refine vGetC 56 i195_53 f195_58 sh_77 rfl rfl ?_
    refine vKb 58 i195_56 (by decide) rfl ?_
    refine vLin 59 i195_58 rfl rfl ?_
    refine vImul 60 i195_59 rfl ?_
    refine vLin 61 i195_60 rfl rfl ?_
    refine vIadd 62 i195_61 rfl ?_
    refine vK 63 i195_62 rfl ?_
    refine vIas 64 rfl i195_63 sh_91 rfl (fun s2 => ?_)
    refine vInc 67 (fun v3 => [(2, vi v3), (0, .ref 77), (1, vi x1)]) i195_64 m195 (by decide) rfl (fun _ => rfl) rfl (fun v3 => ?_)
    refine vGo 46 i195_67 rfl ?_
    exact fun hD => tLc [(0, .ref 77), (1, vi x1), (2, vi v3)] (xNdk [0, 1, 2] rfl (by decide)) (xNdk [2, 0, 1] rfl (by decide)) ⟨rfl, rfl, rfl, trivial⟩ (hk46 s2 x1 v3 hD)
theorem c_x8_untells_46L {sc : xS} {d : Nat} {R : Rs} (N : Nat)  (hd : 0 ≤ d) (k2 : St → Int → Option Rs) (hk2 : ∀ (s : St) (x1 : Int), k2 s x1 = some R → vT sc d 195 2 [(0, .ref 77), (1, vi x1)] [] s (fun r => r = qV R))  : ∀ (n : Nat) (s : St) (x1 : Int) (x2 : Int), d_x8_untells_46L N k2 n s x1 x2 = some R → vT sc d 195 46 [(0, .ref 77), (1, vi x1), (2, vi x2)] [] s (fun r => r = qV R) := by
  intro n
  induction n with
  | zero => intro s x1 x2 hD; cases hD
  | succ n ih => intro s x1 x2 hD; exact c_x8_untells_46 N  hd k2 hk2 _ ih s x1 x2 hD
def d_x8_untells_2 (N : Nat)  (k2 : St → Int → Option Rs) (s : St) (x1 : Int) : Option Rs :=
  (if (w32 x1) < 192 then if 0 ≤ (w32 x1) ∧ (w32 x1) < ((192 : Nat) : Int) then bd (up s 86 (Int.toNat (w32 x1)) 0) fun s4 => if 0 ≤ (w32 x1) ∧ (w32 x1) < ((192 : Nat) : Int) then bd (up s4 87 (Int.toNat (w32 x1)) 0) fun s5 => if 0 ≤ (w32 x1) ∧ (w32 x1) < ((192 : Nat) : Int) then bd (up s5 88 (Int.toNat (w32 x1)) (and32 0 1)) fun s6 => if 0 ≤ (w32 x1) ∧ (w32 x1) < ((192 : Nat) : Int) then bd (up s6 89 (Int.toNat (w32 x1)) 0) fun s7 => if 0 ≤ (w32 x1) ∧ (w32 x1) < ((192 : Nat) : Int) then bd (up s7 90 (Int.toNat (w32 x1)) 0) fun s8 => d_x8_untells_46L N k2 N s8 x1 0 else none else none else none else none else none else some (s, 0))
def d_x8_untells_2L (N : Nat)  : Nat → St → Int → Option Rs
  | 0 => fun _ _ => none
  | n + 1 => d_x8_untells_2 N  (d_x8_untells_2L N  n)
set_option maxHeartbeats 4000000 in
set_option maxRecDepth 100000 in
theorem c_x8_untells_2 {sc : xS} {d : Nat} {R : Rs} (N : Nat)  (hd : 0 ≤ d)   (k2 : St → Int → Option Rs) (hk2 : ∀ (s : St) (x1 : Int), k2 s x1 = some R → vT sc d 195 2 [(0, .ref 77), (1, vi x1)] [] s (fun r => r = qV R)) (s : St) (x1 : Int) : d_x8_untells_2 N  k2 s x1 = some R → vT sc d 195 2 [(0, .ref 77), (1, vi x1)] [] s (fun r => r = qV R) := by
  unfold d_x8_untells_2
  refine vLin 3 i195_2 rfl rfl ?_
  refine vKs 6 i195_3 (by decide) rfl ?_
  refine vCge 76 9 rfl (show w32 192 = 192 from rfl) i195_6 rfl rfl ?_ ?_
  · exact vR0 i195_76 m195
  · refine vLan 10 i195_9 rfl rfl ?_
    refine vGetC 13 i195_10 f195_42 sh_77 rfl rfl ?_
    refine vLin 14 i195_13 rfl rfl ?_
    refine vK 15 i195_14 rfl ?_
    refine vIas 16 rfl i195_15 sh_86 rfl (fun s4 => ?_)
    refine vLan 17 i195_16 rfl rfl ?_
    refine vGetC 20 i195_17 f195_45 sh_77 rfl rfl ?_
    refine vLin 21 i195_20 rfl rfl ?_
    refine vK 22 i195_21 rfl ?_
    refine vIas 23 rfl i195_22 sh_87 rfl (fun s5 => ?_)
    refine vLan 24 i195_23 rfl rfl ?_
    refine vGetC 27 i195_24 f195_48 sh_77 rfl rfl ?_
    refine vLin 28 i195_27 rfl rfl ?_
    refine vK 29 i195_28 rfl ?_
    refine vZas 30 rfl i195_29 sh_88 rfl (fun s6 => ?_)
    refine vLan 31 i195_30 rfl rfl ?_
    refine vGetC 34 i195_31 f195_52 sh_77 rfl rfl ?_
    refine vLin 35 i195_34 rfl rfl ?_
    refine vK 36 i195_35 rfl ?_
    refine vIas 37 rfl i195_36 sh_89 rfl (fun s7 => ?_)
    refine vLan 38 i195_37 rfl rfl ?_
    refine vGetC 41 i195_38 f195_55 sh_77 rfl rfl ?_
    refine vLin 42 i195_41 rfl rfl ?_
    refine vK 43 i195_42 rfl ?_
    refine vIas 44 rfl i195_43 sh_90 rfl (fun s8 => ?_)
    refine vK 45 i195_44 rfl ?_
    refine vSin0 46 [(2, vi 0), (0, .ref 77), (1, vi x1)] i195_45 m195 (by decide) rfl rfl ?_
    exact fun hD => tLc [(0, .ref 77), (1, vi x1), (2, vi 0)] (xNdk [0, 1, 2] rfl (by decide)) (xNdk [2, 0, 1] rfl (by decide)) ⟨rfl, rfl, rfl, trivial⟩ (c_x8_untells_46L N  hd k2 hk2 N s8 x1 0 hD)
theorem c_x8_untells_2L {sc : xS} {d : Nat} {R : Rs} (N : Nat)  (hd : 0 ≤ d)   : ∀ (n : Nat) (s : St) (x1 : Int), d_x8_untells_2L N  n s x1 = some R → vT sc d 195 2 [(0, .ref 77), (1, vi x1)] [] s (fun r => r = qV R) := by
  intro n
  induction n with
  | zero => intro s x1 hD; cases hD
  | succ n ih => intro s x1 hD; exact c_x8_untells_2 N  hd  _ ih s x1 hD
def d_x8_untells (N : Nat)  (s : St)  : Option Rs :=
  d_x8_untells_2L N  N s 0
set_option maxHeartbeats 4000000 in
set_option maxRecDepth 100000 in
theorem c_x8_untells {sc : xS} {d : Nat} {R : Rs} (N : Nat)  (hd : 0 ≤ d)   (s : St)  : d_x8_untells N  s  = some R → vT sc d 195 0 [(0, .ref 77)] [] s (fun r => r = qV R) := by
  unfold d_x8_untells
  refine vK 1 i195_0 rfl ?_
  refine vSin0 2 [(1, vi 0), (0, .ref 77)] i195_1 m195 (by decide) rfl rfl ?_
  exact fun hD => tLc [(0, .ref 77), (1, vi 0)] (xNdk [0, 1] rfl (by decide)) (xNdk [1, 0] rfl (by decide)) ⟨rfl, rfl, trivial⟩ (c_x8_untells_2L N  hd  N s 0 hD)
theorem f190_218 : xFld xg 190 218 = some (7, 24) := by decide +kernel
theorem f190_13 : xFld xg 190 13 = some (7, 1) := by decide +kernel
theorem f190_248 : xFld xg 190 248 = some (7, 26) := by decide +kernel
theorem f190_17 : xFld xg 190 17 = some (7, 2) := by decide +kernel
theorem f190_70 : xFld xg 190 70 = some (7, 27) := by decide +kernel
theorem f190_20 : xFld xg 190 20 = some (7, 3) := by decide +kernel
theorem f190_73 : xFld xg 190 73 = some (7, 28) := by decide +kernel
theorem f190_23 : xFld xg 190 23 = some (7, 4) := by decide +kernel
theorem f190_76 : xFld xg 190 76 = some (7, 29) := by decide +kernel
theorem f190_26 : xFld xg 190 26 = some (7, 5) := by decide +kernel
theorem f190_79 : xFld xg 190 79 = some (7, 30) := by decide +kernel
theorem f190_30 : xFld xg 190 30 = some (7, 6) := by decide +kernel
theorem f190_82 : xFld xg 190 82 = some (7, 31) := by decide +kernel
theorem f190_33 : xFld xg 190 33 = some (7, 7) := by decide +kernel
theorem f190_85 : xFld xg 190 85 = some (7, 32) := by decide +kernel
theorem f190_36 : xFld xg 190 36 = some (7, 8) := by decide +kernel
theorem f190_88 : xFld xg 190 88 = some (7, 33) := by decide +kernel
theorem f190_222 : xFld xg 190 222 = some (7, 25) := by decide +kernel
theorem f190_196 : xFld xg 190 196 = some (7, 21) := by decide +kernel
theorem i190_173 : xIns xg 190 173 = some (.iload 4) := by decide +kernel
theorem i190_175 : xIns xg 190 175 = some (.bipush 8) := by decide +kernel
theorem i190_177 : xIns xg 190 177 = some (.if_icmp .ge 33) := by decide +kernel
theorem i190_210 : xIns xg 190 210 = some (.iinc 2 1) := by decide +kernel
theorem m190 : (xMet xg 190).2.2 = (5, (some .int)) := by decide +kernel
theorem i190_213 : xIns xg 190 213 = some (.goto (-130)) := by decide +kernel
theorem i190_180 : xIns xg 190 180 = some (.aload_n 0) := by decide +kernel
theorem i190_181 : xIns xg 190 181 = some (.getfield 36) := by decide +kernel
theorem i190_184 : xIns xg 190 184 = some (.bipush 8) := by decide +kernel
theorem i190_186 : xIns xg 190 186 = some (.iload_n 3) := by decide +kernel
theorem i190_187 : xIns xg 190 187 = some (.imul) := by decide +kernel
theorem i190_188 : xIns xg 190 188 = some (.iload 4) := by decide +kernel
theorem i190_190 : xIns xg 190 190 = some (.iadd) := by decide +kernel
theorem i190_191 : xIns xg 190 191 = some (.aload_n 0) := by decide +kernel
theorem i190_192 : xIns xg 190 192 = some (.getfield 88) := by decide +kernel
theorem i190_195 : xIns xg 190 195 = some (.bipush 8) := by decide +kernel
theorem i190_197 : xIns xg 190 197 = some (.iload_n 2) := by decide +kernel
theorem i190_198 : xIns xg 190 198 = some (.imul) := by decide +kernel
theorem i190_199 : xIns xg 190 199 = some (.iload 4) := by decide +kernel
theorem i190_201 : xIns xg 190 201 = some (.iadd) := by decide +kernel
theorem i190_202 : xIns xg 190 202 = some (.laload) := by decide +kernel
theorem i190_203 : xIns xg 190 203 = some (.lastore) := by decide +kernel
theorem i190_204 : xIns xg 190 204 = some (.iinc 4 1) := by decide +kernel
theorem i190_207 : xIns xg 190 207 = some (.goto (-34)) := by decide +kernel
theorem i190_83 : xIns xg 190 83 = some (.iload_n 2) := by decide +kernel
theorem i190_84 : xIns xg 190 84 = some (.aload_n 0) := by decide +kernel
theorem i190_85 : xIns xg 190 85 = some (.getfield 248) := by decide +kernel
theorem i190_88 : xIns xg 190 88 = some (.if_icmp .ge 128) := by decide +kernel
theorem i190_216 : xIns xg 190 216 = some (.aload_n 0) := by decide +kernel
theorem i190_217 : xIns xg 190 217 = some (.invokevirtual 269) := by decide +kernel
theorem i190_220 : xIns xg 190 220 = some (.aload_n 0) := by decide +kernel
theorem i190_221 : xIns xg 190 221 = some (.getfield 248) := by decide +kernel
theorem i190_224 : xIns xg 190 224 = some (.ireturn) := by decide +kernel
theorem i190_91 : xIns xg 190 91 = some (.bipush 24) := by decide +kernel
theorem i190_93 : xIns xg 190 93 = some (.iload_n 1) := by decide +kernel
theorem i190_94 : xIns xg 190 94 = some (.imul) := by decide +kernel
theorem i190_95 : xIns xg 190 95 = some (.iload_n 2) := by decide +kernel
theorem i190_96 : xIns xg 190 96 = some (.iadd) := by decide +kernel
theorem i190_97 : xIns xg 190 97 = some (.istore_n 3) := by decide +kernel
theorem i190_98 : xIns xg 190 98 = some (.aload_n 0) := by decide +kernel
theorem i190_99 : xIns xg 190 99 = some (.getfield 17) := by decide +kernel
theorem i190_102 : xIns xg 190 102 = some (.iload_n 3) := by decide +kernel
theorem i190_103 : xIns xg 190 103 = some (.aload_n 0) := by decide +kernel
theorem i190_104 : xIns xg 190 104 = some (.getfield 70) := by decide +kernel
theorem i190_107 : xIns xg 190 107 = some (.iload_n 2) := by decide +kernel
theorem i190_108 : xIns xg 190 108 = some (.iaload) := by decide +kernel
theorem i190_109 : xIns xg 190 109 = some (.iastore) := by decide +kernel
theorem i190_110 : xIns xg 190 110 = some (.aload_n 0) := by decide +kernel
theorem i190_111 : xIns xg 190 111 = some (.getfield 20) := by decide +kernel
theorem i190_114 : xIns xg 190 114 = some (.iload_n 3) := by decide +kernel
theorem i190_115 : xIns xg 190 115 = some (.aload_n 0) := by decide +kernel
theorem i190_116 : xIns xg 190 116 = some (.getfield 73) := by decide +kernel
theorem i190_119 : xIns xg 190 119 = some (.iload_n 2) := by decide +kernel
theorem i190_120 : xIns xg 190 120 = some (.iaload) := by decide +kernel
theorem i190_121 : xIns xg 190 121 = some (.iastore) := by decide +kernel
theorem i190_122 : xIns xg 190 122 = some (.aload_n 0) := by decide +kernel
theorem i190_123 : xIns xg 190 123 = some (.getfield 23) := by decide +kernel
theorem i190_126 : xIns xg 190 126 = some (.iload_n 3) := by decide +kernel
theorem i190_127 : xIns xg 190 127 = some (.aload_n 0) := by decide +kernel
theorem i190_128 : xIns xg 190 128 = some (.getfield 76) := by decide +kernel
theorem i190_131 : xIns xg 190 131 = some (.iload_n 2) := by decide +kernel
theorem i190_132 : xIns xg 190 132 = some (.iaload) := by decide +kernel
theorem i190_133 : xIns xg 190 133 = some (.iastore) := by decide +kernel
theorem i190_134 : xIns xg 190 134 = some (.aload_n 0) := by decide +kernel
theorem i190_135 : xIns xg 190 135 = some (.getfield 26) := by decide +kernel
theorem i190_138 : xIns xg 190 138 = some (.iload_n 3) := by decide +kernel
theorem i190_139 : xIns xg 190 139 = some (.aload_n 0) := by decide +kernel
theorem i190_140 : xIns xg 190 140 = some (.getfield 79) := by decide +kernel
theorem i190_143 : xIns xg 190 143 = some (.iload_n 2) := by decide +kernel
theorem i190_144 : xIns xg 190 144 = some (.laload) := by decide +kernel
theorem i190_145 : xIns xg 190 145 = some (.lastore) := by decide +kernel
theorem i190_146 : xIns xg 190 146 = some (.aload_n 0) := by decide +kernel
theorem i190_147 : xIns xg 190 147 = some (.getfield 30) := by decide +kernel
theorem i190_150 : xIns xg 190 150 = some (.iload_n 3) := by decide +kernel
theorem i190_151 : xIns xg 190 151 = some (.aload_n 0) := by decide +kernel
theorem i190_152 : xIns xg 190 152 = some (.getfield 82) := by decide +kernel
theorem i190_155 : xIns xg 190 155 = some (.iload_n 2) := by decide +kernel
theorem i190_156 : xIns xg 190 156 = some (.laload) := by decide +kernel
theorem i190_157 : xIns xg 190 157 = some (.lastore) := by decide +kernel
theorem i190_158 : xIns xg 190 158 = some (.aload_n 0) := by decide +kernel
theorem i190_159 : xIns xg 190 159 = some (.getfield 33) := by decide +kernel
theorem i190_162 : xIns xg 190 162 = some (.iload_n 3) := by decide +kernel
theorem i190_163 : xIns xg 190 163 = some (.aload_n 0) := by decide +kernel
theorem i190_164 : xIns xg 190 164 = some (.getfield 85) := by decide +kernel
theorem i190_167 : xIns xg 190 167 = some (.iload_n 2) := by decide +kernel
theorem i190_168 : xIns xg 190 168 = some (.iaload) := by decide +kernel
theorem i190_169 : xIns xg 190 169 = some (.iastore) := by decide +kernel
theorem i190_170 : xIns xg 190 170 = some (.iconst 0) := by decide +kernel
theorem i190_171 : xIns xg 190 171 = some (.istore 4) := by decide +kernel
theorem i190_51 : xIns xg 190 51 = some (.aload_n 0) := by decide +kernel
theorem i190_52 : xIns xg 190 52 = some (.iconst 0) := by decide +kernel
theorem i190_53 : xIns xg 190 53 = some (.putfield 183) := by decide +kernel
theorem p190_183 : xPut xg 190 183 = some (7, 19, .int) := by decide +kernel
theorem i190_56 : xIns xg 190 56 = some (.aload_n 0) := by decide +kernel
theorem i190_57 : xIns xg 190 57 = some (.getfield 218) := by decide +kernel
theorem i190_60 : xIns xg 190 60 = some (.ifCond .eq 11) := by decide +kernel
theorem i190_71 : xIns xg 190 71 = some (.aload_n 0) := by decide +kernel
theorem i190_72 : xIns xg 190 72 = some (.getfield 13) := by decide +kernel
theorem i190_75 : xIns xg 190 75 = some (.iload_n 1) := by decide +kernel
theorem i190_76 : xIns xg 190 76 = some (.aload_n 0) := by decide +kernel
theorem i190_77 : xIns xg 190 77 = some (.getfield 248) := by decide +kernel
theorem i190_80 : xIns xg 190 80 = some (.iastore) := by decide +kernel
theorem i190_81 : xIns xg 190 81 = some (.iconst 0) := by decide +kernel
theorem i190_82 : xIns xg 190 82 = some (.istore_n 2) := by decide +kernel
theorem i190_63 : xIns xg 190 63 = some (.bipush (-100)) := by decide +kernel
theorem i190_65 : xIns xg 190 65 = some (.aload_n 0) := by decide +kernel
theorem i190_66 : xIns xg 190 66 = some (.getfield 222) := by decide +kernel
theorem i190_69 : xIns xg 190 69 = some (.isub) := by decide +kernel
theorem i190_70 : xIns xg 190 70 = some (.ireturn) := by decide +kernel
theorem i190_0 : xIns xg 190 0 = some (.iload_n 1) := by decide +kernel
theorem i190_1 : xIns xg 190 1 = some (.invokestatic 266) := by decide +kernel
theorem i190_4 : xIns xg 190 4 = some (.ifCond .ne 6) := by decide +kernel
theorem i190_10 : xIns xg 190 10 = some (.aload_n 0) := by decide +kernel
theorem i190_11 : xIns xg 190 11 = some (.iconst 0) := by decide +kernel
theorem i190_12 : xIns xg 190 12 = some (.putfield 186) := by decide +kernel
theorem p190_186 : xPut xg 190 186 = some (7, 20, .int) := by decide +kernel
theorem i190_15 : xIns xg 190 15 = some (.aload_n 0) := by decide +kernel
theorem i190_16 : xIns xg 190 16 = some (.iconst 0) := by decide +kernel
theorem i190_17 : xIns xg 190 17 = some (.putfield 218) := by decide +kernel
theorem p190_218 : xPut xg 190 218 = some (7, 24, .boolean) := by decide +kernel
theorem i190_20 : xIns xg 190 20 = some (.aload_n 0) := by decide +kernel
theorem i190_21 : xIns xg 190 21 = some (.iconst 0) := by decide +kernel
theorem i190_22 : xIns xg 190 22 = some (.putfield 248) := by decide +kernel
theorem p190_248 : xPut xg 190 248 = some (7, 26, .int) := by decide +kernel
theorem i190_25 : xIns xg 190 25 = some (.aload_n 0) := by decide +kernel
theorem i190_26 : xIns xg 190 26 = some (.invokevirtual 238) := by decide +kernel
theorem i190_29 : xIns xg 190 29 = some (.aload_n 0) := by decide +kernel
theorem i190_30 : xIns xg 190 30 = some (.invokevirtual 263) := by decide +kernel
theorem i190_33 : xIns xg 190 33 = some (.aload_n 0) := by decide +kernel
theorem i190_34 : xIns xg 190 34 = some (.getfield 218) := by decide +kernel
theorem i190_37 : xIns xg 190 37 = some (.ifCond .ne 14) := by decide +kernel
theorem i190_40 : xIns xg 190 40 = some (.aload_n 0) := by decide +kernel
theorem i190_41 : xIns xg 190 41 = some (.getfield 196) := by decide +kernel
theorem i190_44 : xIns xg 190 44 = some (.ifCond .eq 7) := by decide +kernel
theorem i190_47 : xIns xg 190 47 = some (.aload_n 0) := by decide +kernel
theorem i190_48 : xIns xg 190 48 = some (.invokevirtual 245) := by decide +kernel
theorem i190_7 : xIns xg 190 7 = some (.bipush (-2)) := by decide +kernel
theorem i190_9 : xIns xg 190 9 = some (.ireturn) := by decide +kernel
def d_x8_text_173 (N : Nat) (k83 : St → Int → Int → Option Rs) (k173 : St → Int → Int → Int → Int → Option Rs) (s : St) (x1 : Int) (x2 : Int) (x3 : Int) (x4 : Int) : Option Rs :=
  (if (w32 x4) < 8 then if 0 ≤ (w32 ((8 * x2) + x4)) ∧ (w32 ((8 * x2) + x4)) < ((192 : Nat) : Int) then if 0 ≤ (w32 ((8 * x3) + x4)) ∧ (w32 ((8 * x3) + x4)) < ((1536 : Nat) : Int) then bd (up s 85 (Int.toNat (w32 ((8 * x3) + x4))) (s 101 (Int.toNat (w32 ((8 * x2) + x4))))) fun s2 => bd (x4 + 1) fun v3 => k173 s2 x1 x2 x3 v3 else none else none else bd (x2 + 1) fun v1 => k83 s x1 v1)
def d_x8_text_173L (N : Nat) (k83 : St → Int → Int → Option Rs) : Nat → St → Int → Int → Int → Int → Option Rs
  | 0 => fun _ _ _ _ _ => none
  | n + 1 => d_x8_text_173 N k83 (d_x8_text_173L N k83 n)
set_option maxHeartbeats 4000000 in
set_option maxRecDepth 100000 in
theorem c_x8_text_173 {sc : xS} {d : Nat} {R : Rs} (N : Nat)  (hd : 241 ≤ d) (k83 : St → Int → Int → Option Rs) (hk83 : ∀ (s : St) (x1 : Int) (x2 : Int), k83 s x1 x2 = some R → vT sc d 190 83 [(0, .ref 77), (1, vi x1), (2, vi x2)] [] s (fun r => r = qI R))  (k173 : St → Int → Int → Int → Int → Option Rs) (hk173 : ∀ (s : St) (x1 : Int) (x2 : Int) (x3 : Int) (x4 : Int), k173 s x1 x2 x3 x4 = some R → vT sc d 190 173 [(0, .ref 77), (1, vi x1), (2, vi x2), (3, vi x3), (4, vi x4)] [] s (fun r => r = qI R)) (s : St) (x1 : Int) (x2 : Int) (x3 : Int) (x4 : Int) : d_x8_text_173 N k83 k173 s x1 x2 x3 x4 = some R → vT sc d 190 173 [(0, .ref 77), (1, vi x1), (2, vi x2), (3, vi x3), (4, vi x4)] [] s (fun r => r = qI R) := by
  obtain ⟨d, rfl⟩ : ∃ d', d = d' + 1 := ⟨d - 1, by omega⟩
  unfold d_x8_text_173
  refine vLi 175 i190_173 rfl rfl ?_
  refine vKb 177 i190_175 (by decide) rfl ?_
  refine vCge 210 180 rfl (show w32 8 = 8 from rfl) i190_177 rfl rfl ?_ ?_
  · refine vInc 213 (fun v1 => [(2, vi v1), (0, .ref 77), (1, vi x1), (3, vi x3), (4, vi x4)]) i190_210 m190 (by decide) rfl (fun _ => rfl) rfl (fun v1 => ?_)
    refine vGo 83 i190_213 rfl ?_
    exact fun hD => tLc [(0, .ref 77), (1, vi x1), (2, vi v1)] (xNdk [0, 1, 2] rfl (by decide)) (xNdk [2, 0, 1, 3, 4] rfl (by decide)) ⟨rfl, rfl, rfl, trivial⟩ (hk83 s x1 v1 hD)
  · refine vLan 181 i190_180 rfl rfl ?_
    refine vGetC 184 i190_181 f190_36 sh_77 rfl rfl ?_
    refine vKb 186 i190_184 (by decide) rfl ?_
    refine vLin 187 i190_186 rfl rfl ?_
    refine vImul 188 i190_187 rfl ?_
    refine vLi 190 i190_188 rfl rfl ?_
    refine vIadd 191 i190_190 rfl ?_
    refine vLan 192 i190_191 rfl rfl ?_
    refine vGetC 195 i190_192 f190_88 sh_77 rfl rfl ?_
    refine vKb 197 i190_195 (by decide) rfl ?_
    refine vLin 198 i190_197 rfl rfl ?_
    refine vImul 199 i190_198 rfl ?_
    refine vLi 201 i190_199 rfl rfl ?_
    refine vIadd 202 i190_201 rfl ?_
    refine vLal 203 rfl i190_202 sh_101 rfl ?_
    refine vLas 204 rfl i190_203 sh_85 rfl (fun s2 => ?_)
    refine vInc 207 (fun v3 => [(4, vi v3), (0, .ref 77), (1, vi x1), (2, vi x2), (3, vi x3)]) i190_204 m190 (by decide) rfl (fun _ => rfl) rfl (fun v3 => ?_)
    refine vGo 173 i190_207 rfl ?_
    exact fun hD => tLc [(0, .ref 77), (1, vi x1), (2, vi x2), (3, vi x3), (4, vi v3)] (xNdk [0, 1, 2, 3, 4] rfl (by decide)) (xNdk [4, 0, 1, 2, 3] rfl (by decide)) ⟨rfl, rfl, rfl, rfl, rfl, trivial⟩ (hk173 s2 x1 x2 x3 v3 hD)
theorem c_x8_text_173L {sc : xS} {d : Nat} {R : Rs} (N : Nat)  (hd : 241 ≤ d) (k83 : St → Int → Int → Option Rs) (hk83 : ∀ (s : St) (x1 : Int) (x2 : Int), k83 s x1 x2 = some R → vT sc d 190 83 [(0, .ref 77), (1, vi x1), (2, vi x2)] [] s (fun r => r = qI R))  : ∀ (n : Nat) (s : St) (x1 : Int) (x2 : Int) (x3 : Int) (x4 : Int), d_x8_text_173L N k83 n s x1 x2 x3 x4 = some R → vT sc d 190 173 [(0, .ref 77), (1, vi x1), (2, vi x2), (3, vi x3), (4, vi x4)] [] s (fun r => r = qI R) := by
  intro n
  induction n with
  | zero => intro s x1 x2 x3 x4 hD; cases hD
  | succ n ih => intro s x1 x2 x3 x4 hD; exact c_x8_text_173 N  hd k83 hk83 _ ih s x1 x2 x3 x4 hD
def d_x8_text_83 (N : Nat)  (k83 : St → Int → Int → Option Rs) (s : St) (x1 : Int) (x2 : Int) : Option Rs :=
  (if (w32 x2) < (w32 (s 77 26)) then bd ((24 * x1) + x2) fun v6 => if 0 ≤ (w32 x2) ∧ (w32 x2) < ((24 : Nat) : Int) then if 0 ≤ (w32 v6) ∧ (w32 v6) < ((192 : Nat) : Int) then bd (up s 79 (Int.toNat (w32 v6)) (s 95 (Int.toNat (w32 x2)))) fun s7 => if 0 ≤ (w32 x2) ∧ (w32 x2) < ((24 : Nat) : Int) then if 0 ≤ (w32 v6) ∧ (w32 v6) < ((192 : Nat) : Int) then bd (up s7 80 (Int.toNat (w32 v6)) (s7 96 (Int.toNat (w32 x2)))) fun s8 => if 0 ≤ (w32 x2) ∧ (w32 x2) < ((24 : Nat) : Int) then if 0 ≤ (w32 v6) ∧ (w32 v6) < ((192 : Nat) : Int) then bd (up s8 81 (Int.toNat (w32 v6)) (s8 97 (Int.toNat (w32 x2)))) fun s9 => if 0 ≤ (w32 x2) ∧ (w32 x2) < ((24 : Nat) : Int) then if 0 ≤ (w32 v6) ∧ (w32 v6) < ((192 : Nat) : Int) then bd (up s9 82 (Int.toNat (w32 v6)) (s9 98 (Int.toNat (w32 x2)))) fun s10 => if 0 ≤ (w32 x2) ∧ (w32 x2) < ((24 : Nat) : Int) then if 0 ≤ (w32 v6) ∧ (w32 v6) < ((192 : Nat) : Int) then bd (up s10 83 (Int.toNat (w32 v6)) (s10 99 (Int.toNat (w32 x2)))) fun s11 => if 0 ≤ (w32 x2) ∧ (w32 x2) < ((24 : Nat) : Int) then if 0 ≤ (w32 v6) ∧ (w32 v6) < ((192 : Nat) : Int) then bd (up s11 84 (Int.toNat (w32 v6)) (s11 100 (Int.toNat (w32 x2)))) fun s12 => d_x8_text_173L N k83 N s12 x1 x2 v6 0 else none else none else none else none else none else none else none else none else none else none else none else none else bV (d_x8_untells N  s ) fun s4 => some (s4, (s4 77 26)))
def d_x8_text_83L (N : Nat)  : Nat → St → Int → Int → Option Rs
  | 0 => fun _ _ _ => none
  | n + 1 => d_x8_text_83 N  (d_x8_text_83L N  n)
set_option maxHeartbeats 4000000 in
set_option maxRecDepth 100000 in
theorem c_x8_text_83 {sc : xS} {d : Nat} {R : Rs} (N : Nat)  (hd : 241 ≤ d)   (k83 : St → Int → Int → Option Rs) (hk83 : ∀ (s : St) (x1 : Int) (x2 : Int), k83 s x1 x2 = some R → vT sc d 190 83 [(0, .ref 77), (1, vi x1), (2, vi x2)] [] s (fun r => r = qI R)) (s : St) (x1 : Int) (x2 : Int) : d_x8_text_83 N  k83 s x1 x2 = some R → vT sc d 190 83 [(0, .ref 77), (1, vi x1), (2, vi x2)] [] s (fun r => r = qI R) := by
  obtain ⟨d, rfl⟩ : ∃ d', d = d' + 1 := ⟨d - 1, by omega⟩
  unfold d_x8_text_83
  refine vLin 84 i190_83 rfl rfl ?_
  refine vLan 85 i190_84 rfl rfl ?_
  refine vGet 88 i190_85 f190_248 sh_77 rfl rfl ?_
  refine vCge 216 91 rfl rfl i190_88 rfl rfl ?_ ?_
  · refine vLan 217 i190_216 rfl rfl ?_
    refine vCallV 220 [.ref 77] [] [(0, .ref 77)] i190_217 rfl (xlk0 l190_269) (Or.inl rfl) m195 rfl rfl (Nat.le_of_ble_eq_true rfl) (Nat.le_of_ble_eq_true rfl) (Nat.le_of_ble_eq_true rfl) (xh0 sh_77 (by decide)) rfl rfl (fun R1 => c_x8_untells N   (by omega) s ) (fun s4 => ?_)
    refine vLan 221 i190_220 rfl rfl ?_
    refine vGet 224 i190_221 f190_248 sh_77 rfl rfl ?_
    exact vRi i190_224 m190 rfl
  · refine vKb 93 i190_91 (by decide) rfl ?_
    refine vLin 94 i190_93 rfl rfl ?_
    refine vImul 95 i190_94 rfl ?_
    refine vLin 96 i190_95 rfl rfl ?_
    refine vIadd 97 i190_96 rfl ?_
    refine vSin 98 (fun v6 => [(3, vi v6), (0, .ref 77), (1, vi x1), (2, vi x2)]) i190_97 m190 (by decide) (fun v6 => (rfl : xst1 [(0, .ref 77), (1, vi x1), (2, vi x2)] 3 (vi v6) = [(3, vi v6), (0, .ref 77), (1, vi x1), (2, vi x2)])) rfl (fun v6 => ?_)
    refine vLan 99 i190_98 rfl rfl ?_
    refine vGetC 102 i190_99 f190_17 sh_77 rfl rfl ?_
    refine vLin 103 i190_102 rfl rfl ?_
    refine vLan 104 i190_103 rfl rfl ?_
    refine vGetC 107 i190_104 f190_70 sh_77 rfl rfl ?_
    refine vLin 108 i190_107 rfl rfl ?_
    refine vIal 109 rfl i190_108 sh_95 rfl ?_
    refine vIas 110 rfl i190_109 sh_79 rfl (fun s7 => ?_)
    refine vLan 111 i190_110 rfl rfl ?_
    refine vGetC 114 i190_111 f190_20 sh_77 rfl rfl ?_
    refine vLin 115 i190_114 rfl rfl ?_
    refine vLan 116 i190_115 rfl rfl ?_
    refine vGetC 119 i190_116 f190_73 sh_77 rfl rfl ?_
    refine vLin 120 i190_119 rfl rfl ?_
    refine vIal 121 rfl i190_120 sh_96 rfl ?_
    refine vIas 122 rfl i190_121 sh_80 rfl (fun s8 => ?_)
    refine vLan 123 i190_122 rfl rfl ?_
    refine vGetC 126 i190_123 f190_23 sh_77 rfl rfl ?_
    refine vLin 127 i190_126 rfl rfl ?_
    refine vLan 128 i190_127 rfl rfl ?_
    refine vGetC 131 i190_128 f190_76 sh_77 rfl rfl ?_
    refine vLin 132 i190_131 rfl rfl ?_
    refine vIal 133 rfl i190_132 sh_97 rfl ?_
    refine vIas 134 rfl i190_133 sh_81 rfl (fun s9 => ?_)
    refine vLan 135 i190_134 rfl rfl ?_
    refine vGetC 138 i190_135 f190_26 sh_77 rfl rfl ?_
    refine vLin 139 i190_138 rfl rfl ?_
    refine vLan 140 i190_139 rfl rfl ?_
    refine vGetC 143 i190_140 f190_79 sh_77 rfl rfl ?_
    refine vLin 144 i190_143 rfl rfl ?_
    refine vLal 145 rfl i190_144 sh_98 rfl ?_
    refine vLas 146 rfl i190_145 sh_82 rfl (fun s10 => ?_)
    refine vLan 147 i190_146 rfl rfl ?_
    refine vGetC 150 i190_147 f190_30 sh_77 rfl rfl ?_
    refine vLin 151 i190_150 rfl rfl ?_
    refine vLan 152 i190_151 rfl rfl ?_
    refine vGetC 155 i190_152 f190_82 sh_77 rfl rfl ?_
    refine vLin 156 i190_155 rfl rfl ?_
    refine vLal 157 rfl i190_156 sh_99 rfl ?_
    refine vLas 158 rfl i190_157 sh_83 rfl (fun s11 => ?_)
    refine vLan 159 i190_158 rfl rfl ?_
    refine vGetC 162 i190_159 f190_33 sh_77 rfl rfl ?_
    refine vLin 163 i190_162 rfl rfl ?_
    refine vLan 164 i190_163 rfl rfl ?_
    refine vGetC 167 i190_164 f190_85 sh_77 rfl rfl ?_
    refine vLin 168 i190_167 rfl rfl ?_
    refine vIal 169 rfl i190_168 sh_100 rfl ?_
    refine vIas 170 rfl i190_169 sh_84 rfl (fun s12 => ?_)
    refine vK 171 i190_170 rfl ?_
    refine vSi0 173 [(4, vi 0), (3, vi v6), (0, .ref 77), (1, vi x1), (2, vi x2)] i190_171 m190 (by decide) rfl rfl ?_
    exact fun hD => tLc [(0, .ref 77), (1, vi x1), (2, vi x2), (3, vi v6), (4, vi 0)] (xNdk [0, 1, 2, 3, 4] rfl (by decide)) (xNdk [4, 3, 0, 1, 2] rfl (by decide)) ⟨rfl, rfl, rfl, rfl, rfl, trivial⟩ (c_x8_text_173L N  hd k83 hk83 N s12 x1 x2 v6 0 hD)
theorem c_x8_text_83L {sc : xS} {d : Nat} {R : Rs} (N : Nat)  (hd : 241 ≤ d)   : ∀ (n : Nat) (s : St) (x1 : Int) (x2 : Int), d_x8_text_83L N  n s x1 x2 = some R → vT sc d 190 83 [(0, .ref 77), (1, vi x1), (2, vi x2)] [] s (fun r => r = qI R) := by
  intro n
  induction n with
  | zero => intro s x1 x2 hD; cases hD
  | succ n ih => intro s x1 x2 hD; exact c_x8_text_83 N  hd  _ ih s x1 x2 hD
def d_x8_text_51 (N : Nat)  (s : St) (x1 : Int) : Option Rs :=
  bd (up s 77 19 0) fun s13 => (if (w32 (s13 77 24)) = 0 then if 0 ≤ (w32 x1) ∧ (w32 x1) < ((8 : Nat) : Int) then bd (up s13 78 (Int.toNat (w32 x1)) (s13 77 26)) fun s14 => d_x8_text_83L N  N s14 x1 0 else none else some (s13, ((-100) - (s13 77 25))))
set_option maxHeartbeats 4000000 in
set_option maxRecDepth 100000 in
theorem c_x8_text_51 {sc : xS} {d : Nat} {R : Rs} (N : Nat)  (hd : 241 ≤ d)   (s : St) (x1 : Int) : d_x8_text_51 N  s x1 = some R → vT sc d 190 51 [(0, .ref 77), (1, vi x1)] [] s (fun r => r = qI R) := by
  obtain ⟨d, rfl⟩ : ∃ d', d = d' + 1 := ⟨d - 1, by omega⟩
  unfold d_x8_text_51
  refine vLan 52 i190_51 rfl rfl ?_
  refine vK 53 i190_52 rfl ?_
  refine vPut 56 i190_53 p190_183 sh_77 rfl rfl (fun s13 => ?_)
  refine vLan 57 i190_56 rfl rfl ?_
  refine vGet 60 i190_57 f190_218 sh_77 rfl rfl ?_
  refine vZeq 71 63 rfl i190_60 rfl rfl ?_ ?_
  · refine vLan 72 i190_71 rfl rfl ?_
    refine vGetC 75 i190_72 f190_13 sh_77 rfl rfl ?_
    refine vLin 76 i190_75 rfl rfl ?_
    refine vLan 77 i190_76 rfl rfl ?_
    refine vGet 80 i190_77 f190_248 sh_77 rfl rfl ?_
    refine vIas 81 rfl i190_80 sh_78 rfl (fun s14 => ?_)
    refine vK 82 i190_81 rfl ?_
    refine vSin0 83 [(2, vi 0), (0, .ref 77), (1, vi x1)] i190_82 m190 (by decide) rfl rfl ?_
    exact fun hD => tLc [(0, .ref 77), (1, vi x1), (2, vi 0)] (xNdk [0, 1, 2] rfl (by decide)) (xNdk [2, 0, 1] rfl (by decide)) ⟨rfl, rfl, rfl, trivial⟩ (c_x8_text_83L N  hd  N s14 x1 0 hD)
  · refine vKb 65 i190_63 (by decide) rfl ?_
    refine vLan 66 i190_65 rfl rfl ?_
    refine vGet 69 i190_66 f190_222 sh_77 rfl rfl ?_
    refine vIsub 70 i190_69 rfl ?_
    exact vRi i190_70 m190 rfl
def d_x8_text (N : Nat)  (s : St) (a0 : Int) : Option Rs :=
  bI (d_x8_isStream N  s a0) fun s15 v16 => (if (w32 v16) = 0 then some (s15, (-2)) else bd (up s15 77 20 0) fun s17 => bd (up s17 77 24 0) fun s18 => bd (up s18 77 26 0) fun s19 => bV (d_x8_next N  s19 ) fun s20 => bV ((grw N  30) s20 ) fun s22 => (if (w32 (s22 77 24)) = 0 then (if (w32 (s22 77 21)) = 0 then d_x8_text_51 N  s22 a0 else bV (d_x8_fail N  s22 ) fun s24 => d_x8_text_51 N  s24 a0) else d_x8_text_51 N  s22 a0))
set_option maxHeartbeats 4000000 in
set_option maxRecDepth 100000 in
theorem c_x8_text {sc : xS} {d : Nat} {R : Rs} (N : Nat)  (hd : 241 ≤ d)   (s : St) (a0 : Int) : d_x8_text N  s a0 = some R → vT sc d 190 0 [(0, .ref 77), (1, vi a0)] [] s (fun r => r = qI R) := by
  obtain ⟨d, rfl⟩ : ∃ d', d = d' + 1 := ⟨d - 1, by omega⟩
  unfold d_x8_text
  refine vLin 1 i190_0 rfl rfl ?_
  refine vCallI 4 [vi a0] [] [(0, vi a0)] i190_1 rfl (xlk1 l190_266) (Or.inr (Or.inl rfl)) m153 rfl rfl (Nat.le_of_ble_eq_true rfl) (Nat.le_of_ble_eq_true rfl) (Nat.le_of_ble_eq_true rfl) rfl rfl rfl (fun R1 => c_x8_isStream N   (by omega) s a0) (fun s15 v16 => ?_)
  refine vZne 10 7 rfl i190_4 rfl rfl ?_ ?_
  · refine vLan 11 i190_10 rfl rfl ?_
    refine vK 12 i190_11 rfl ?_
    refine vPut 15 i190_12 p190_186 sh_77 rfl rfl (fun s17 => ?_)
    refine vLan 16 i190_15 rfl rfl ?_
    refine vK 17 i190_16 rfl ?_
    refine vPutZ0 20 (Or.inl rfl) i190_17 p190_218 sh_77 rfl rfl (fun s18 => ?_)
    refine vLan 21 i190_20 rfl rfl ?_
    refine vK 22 i190_21 rfl ?_
    refine vPut 25 i190_22 p190_248 sh_77 rfl rfl (fun s19 => ?_)
    refine vLan 26 i190_25 rfl rfl ?_
    refine vCallV 29 [.ref 77] [] [(0, .ref 77)] i190_26 rfl (xlk0 l190_238) (Or.inl rfl) m167 rfl rfl (Nat.le_of_ble_eq_true rfl) (Nat.le_of_ble_eq_true rfl) (Nat.le_of_ble_eq_true rfl) (xh0 sh_77 (by decide)) rfl rfl (fun R1 => c_x8_next N   (by omega) s19 ) (fun s20 => ?_)
    refine vLan 30 i190_29 rfl rfl ?_
    refine vCallV 33 [.ref 77] [] [(0, .ref 77)] i190_30 rfl (xlk0 l190_263) (Or.inl rfl) m182 rfl rfl (Nat.le_of_ble_eq_true rfl) (Nat.le_of_ble_eq_true rfl) (Nat.le_of_ble_eq_true rfl) (xh0 sh_77 (by decide)) rfl rfl (fun R1 => (grw_ok N  30 d (by omega)) s20  R1) (fun s22 => ?_)
    refine vLan 34 i190_33 rfl rfl ?_
    refine vGet 37 i190_34 f190_218 sh_77 rfl rfl ?_
    refine vZne 51 40 rfl i190_37 rfl rfl ?_ ?_
    · exact fun hD => c_x8_text_51 N  hd  s22 a0 hD
    · refine vLan 41 i190_40 rfl rfl ?_
      refine vGet 44 i190_41 f190_196 sh_77 rfl rfl ?_
      refine vZeq 51 47 rfl i190_44 rfl rfl ?_ ?_
      · exact fun hD => c_x8_text_51 N  hd  s22 a0 hD
      · refine vLan 48 i190_47 rfl rfl ?_
        refine vCallV 51 [.ref 77] [] [(0, .ref 77)] i190_48 rfl (xlk0 l190_245) (Or.inl rfl) m130 rfl rfl (Nat.le_of_ble_eq_true rfl) (Nat.le_of_ble_eq_true rfl) (Nat.le_of_ble_eq_true rfl) (xh0 sh_77 (by decide)) rfl rfl (fun R1 => c_x8_fail N   (by omega) s22 ) (fun s24 => ?_)
        exact fun hD => c_x8_text_51 N  hd  s24 a0 hD
  · refine vKb 9 i190_7 (by decide) rfl ?_
    exact vRi i190_9 m190 rfl
theorem f128_13 : xFld xg 128 13 = some (7, 1) := by decide +kernel
theorem i128_0 : xIns xg 128 0 = some (.iload_n 1) := by decide +kernel
theorem i128_1 : xIns xg 128 1 = some (.invokestatic 266) := by decide +kernel
theorem i128_4 : xIns xg 128 4 = some (.ifCond .ne 6) := by decide +kernel
theorem i128_10 : xIns xg 128 10 = some (.aload_n 0) := by decide +kernel
theorem i128_11 : xIns xg 128 11 = some (.getfield 13) := by decide +kernel
theorem i128_14 : xIns xg 128 14 = some (.iload_n 1) := by decide +kernel
theorem i128_15 : xIns xg 128 15 = some (.iaload) := by decide +kernel
theorem i128_16 : xIns xg 128 16 = some (.istore_n 2) := by decide +kernel
theorem m128 : (xMet xg 128).2.2 = (3, (some .int)) := by decide +kernel
theorem i128_17 : xIns xg 128 17 = some (.aload_n 0) := by decide +kernel
theorem i128_18 : xIns xg 128 18 = some (.getfield 13) := by decide +kernel
theorem i128_21 : xIns xg 128 21 = some (.iload_n 1) := by decide +kernel
theorem i128_22 : xIns xg 128 22 = some (.iconst 0) := by decide +kernel
theorem i128_23 : xIns xg 128 23 = some (.iastore) := by decide +kernel
theorem i128_24 : xIns xg 128 24 = some (.aload_n 0) := by decide +kernel
theorem i128_25 : xIns xg 128 25 = some (.invokevirtual 269) := by decide +kernel
theorem i128_28 : xIns xg 128 28 = some (.iload_n 2) := by decide +kernel
theorem i128_29 : xIns xg 128 29 = some (.ireturn) := by decide +kernel
theorem i128_7 : xIns xg 128 7 = some (.bipush (-2)) := by decide +kernel
theorem i128_9 : xIns xg 128 9 = some (.ireturn) := by decide +kernel
def d_x8_empty (N : Nat)  (s : St) (a0 : Int) : Option Rs :=
  bI (d_x8_isStream N  s a0) fun s1 v2 => (if (w32 v2) = 0 then some (s1, (-2)) else if 0 ≤ (w32 a0) ∧ (w32 a0) < ((8 : Nat) : Int) then bd (s1 78 (Int.toNat (w32 a0))) fun v3 => if 0 ≤ (w32 a0) ∧ (w32 a0) < ((8 : Nat) : Int) then bd (up s1 78 (Int.toNat (w32 a0)) 0) fun s4 => bV (d_x8_untells N  s4 ) fun s5 => some (s5, v3) else none else none)
set_option maxHeartbeats 4000000 in
set_option maxRecDepth 100000 in
theorem c_x8_empty {sc : xS} {d : Nat} {R : Rs} (N : Nat)  (hd : 2 ≤ d)   (s : St) (a0 : Int) : d_x8_empty N  s a0 = some R → vT sc d 128 0 [(0, .ref 77), (1, vi a0)] [] s (fun r => r = qI R) := by
  obtain ⟨d, rfl⟩ : ∃ d', d = d' + 1 := ⟨d - 1, by omega⟩
  unfold d_x8_empty
  refine vLin 1 i128_0 rfl rfl ?_
  refine vCallI 4 [vi a0] [] [(0, vi a0)] i128_1 rfl (xlk1 l128_266) (Or.inr (Or.inl rfl)) m153 rfl rfl (Nat.le_of_ble_eq_true rfl) (Nat.le_of_ble_eq_true rfl) (Nat.le_of_ble_eq_true rfl) rfl rfl rfl (fun R1 => c_x8_isStream N   (by omega) s a0) (fun s1 v2 => ?_)
  refine vZne 10 7 rfl i128_4 rfl rfl ?_ ?_
  · refine vLan 11 i128_10 rfl rfl ?_
    refine vGetC 14 i128_11 f128_13 sh_77 rfl rfl ?_
    refine vLin 15 i128_14 rfl rfl ?_
    refine vIal 16 rfl i128_15 sh_78 rfl ?_
    refine vSin 17 (fun v3 => [(2, vi v3), (0, .ref 77), (1, vi a0)]) i128_16 m128 (by decide) (fun v3 => (rfl : xst1 [(0, .ref 77), (1, vi a0)] 2 (vi v3) = [(2, vi v3), (0, .ref 77), (1, vi a0)])) rfl (fun v3 => ?_)
    refine vLan 18 i128_17 rfl rfl ?_
    refine vGetC 21 i128_18 f128_13 sh_77 rfl rfl ?_
    refine vLin 22 i128_21 rfl rfl ?_
    refine vK 23 i128_22 rfl ?_
    refine vIas 24 rfl i128_23 sh_78 rfl (fun s4 => ?_)
    refine vLan 25 i128_24 rfl rfl ?_
    refine vCallV 28 [.ref 77] [] [(0, .ref 77)] i128_25 rfl (xlk0 l128_269) (Or.inl rfl) m195 rfl rfl (Nat.le_of_ble_eq_true rfl) (Nat.le_of_ble_eq_true rfl) (Nat.le_of_ble_eq_true rfl) (xh0 sh_77 (by decide)) rfl rfl (fun R1 => c_x8_untells N   (by omega) s4 ) (fun s5 => ?_)
    refine vLin 29 i128_28 rfl rfl ?_
    exact vRi i128_29 m128 rfl
  · refine vKb 9 i128_7 (by decide) rfl ?_
    exact vRi i128_9 m128 rfl
theorem f148_13 : xFld xg 148 13 = some (7, 1) := by decide +kernel
theorem i148_0 : xIns xg 148 0 = some (.iload_n 2) := by decide +kernel
theorem i148_1 : xIns xg 148 1 = some (.i2l) := by decide +kernel
theorem i148_2 : xIns xg 148 2 = some (.lconst 0) := by decide +kernel
theorem i148_3 : xIns xg 148 3 = some (.aload_n 0) := by decide +kernel
theorem i148_4 : xIns xg 148 4 = some (.getfield 13) := by decide +kernel
theorem i148_7 : xIns xg 148 7 = some (.iload_n 1) := by decide +kernel
theorem i148_8 : xIns xg 148 8 = some (.iaload) := by decide +kernel
theorem i148_9 : xIns xg 148 9 = some (.iconst 1) := by decide +kernel
theorem i148_10 : xIns xg 148 10 = some (.isub) := by decide +kernel
theorem i148_11 : xIns xg 148 11 = some (.i2l) := by decide +kernel
theorem i148_12 : xIns xg 148 12 = some (.invokestatic 177) := by decide +kernel
theorem i148_15 : xIns xg 148 15 = some (.ireturn) := by decide +kernel
theorem m148 : (xMet xg 148).2.2 = (3, (some .boolean)) := by decide +kernel
def d_x8_isPart (N : Nat)  (s : St) (a0 : Int) (a1 : Int) : Option Rs :=
  if 0 ≤ (w32 a0) ∧ (w32 a0) < ((8 : Nat) : Int) then bI (d_x8_in N  s (w32 a1) 0 (w32 ((s 78 (Int.toNat (w32 a0))) - 1))) fun s1 v2 => (if v2 = 0 ∨ v2 = 1 then some (s1, v2) else none) else none
set_option maxHeartbeats 4000000 in
set_option maxRecDepth 100000 in
theorem c_x8_isPart {sc : xS} {d : Nat} {R : Rs} (N : Nat)  (hd : 1 ≤ d)   (s : St) (a0 : Int) (a1 : Int) : d_x8_isPart N  s a0 a1 = some R → vT sc d 148 0 [(0, .ref 77), (1, vi a0), (2, vi a1)] [] s (fun r => r = qI R) := by
  obtain ⟨d, rfl⟩ : ∃ d', d = d' + 1 := ⟨d - 1, by omega⟩
  unfold d_x8_isPart
  refine vLin 1 i148_0 rfl rfl ?_
  refine vI2l 2 i148_1 rfl ?_
  refine vKl 3 0 i148_2 (by decide) rfl ?_
  refine vLan 4 i148_3 rfl rfl ?_
  refine vGetC 7 i148_4 f148_13 sh_77 rfl rfl ?_
  refine vLin 8 i148_7 rfl rfl ?_
  refine vIal 9 rfl i148_8 sh_78 rfl ?_
  refine vK 10 i148_9 rfl ?_
  refine vIsub 11 i148_10 rfl ?_
  refine vI2l 12 i148_11 rfl ?_
  refine vCallI 15 [vl (w32 a1), vl 0, vl (w32 ((s 78 (Int.toNat (w32 a0))) - 1))] [] [(0, vl (w32 a1)), (2, vl 0), (4, vl (w32 ((s 78 (Int.toNat (w32 a0))) - 1)))] i148_12 rfl (xlk1 l148_177) (Or.inr (Or.inl rfl)) m142 rfl rfl (Nat.le_of_ble_eq_true rfl) (Nat.le_of_ble_eq_true rfl) (Nat.le_of_ble_eq_true rfl) rfl rfl rfl (fun R1 => c_x8_in N   (by omega) s (w32 a1) 0 (w32 ((s 78 (Int.toNat (w32 a0))) - 1))) (fun s1 v2 => ?_)
  exact vRz i148_15 m148
theorem f193_58 : xFld xg 193 58 = some (7, 15) := by decide +kernel
theorem i193_30 : xIns xg 193 30 = some (.iadd) := by decide +kernel
theorem i193_31 : xIns xg 193 31 = some (.istore_n 2) := by decide +kernel
theorem m193 : (xMet xg 193).2.2 = (4, (some .int)) := by decide +kernel
theorem i193_32 : xIns xg 193 32 = some (.iinc 3 1) := by decide +kernel
theorem i193_35 : xIns xg 193 35 = some (.goto (-31)) := by decide +kernel
theorem i193_4 : xIns xg 193 4 = some (.iload_n 3) := by decide +kernel
theorem i193_5 : xIns xg 193 5 = some (.bipush 64) := by decide +kernel
theorem i193_7 : xIns xg 193 7 = some (.if_icmp .ge 31) := by decide +kernel
theorem i193_38 : xIns xg 193 38 = some (.iload_n 2) := by decide +kernel
theorem i193_39 : xIns xg 193 39 = some (.ireturn) := by decide +kernel
theorem i193_10 : xIns xg 193 10 = some (.iload_n 2) := by decide +kernel
theorem i193_11 : xIns xg 193 11 = some (.aload_n 0) := by decide +kernel
theorem i193_12 : xIns xg 193 12 = some (.getfield 58) := by decide +kernel
theorem i193_15 : xIns xg 193 15 = some (.bipush 64) := by decide +kernel
theorem i193_17 : xIns xg 193 17 = some (.iload_n 1) := by decide +kernel
theorem i193_18 : xIns xg 193 18 = some (.imul) := by decide +kernel
theorem i193_19 : xIns xg 193 19 = some (.iload_n 3) := by decide +kernel
theorem i193_20 : xIns xg 193 20 = some (.iadd) := by decide +kernel
theorem i193_21 : xIns xg 193 21 = some (.iaload) := by decide +kernel
theorem i193_22 : xIns xg 193 22 = some (.ifCond .ne 7) := by decide +kernel
theorem i193_29 : xIns xg 193 29 = some (.iconst 1) := by decide +kernel
theorem i193_25 : xIns xg 193 25 = some (.iconst 0) := by decide +kernel
theorem i193_26 : xIns xg 193 26 = some (.goto 4) := by decide +kernel
theorem i193_0 : xIns xg 193 0 = some (.iconst 0) := by decide +kernel
theorem i193_1 : xIns xg 193 1 = some (.istore_n 2) := by decide +kernel
theorem i193_2 : xIns xg 193 2 = some (.iconst 0) := by decide +kernel
theorem i193_3 : xIns xg 193 3 = some (.istore_n 3) := by decide +kernel
def d_x8_toldHeads_30 (N : Nat) (k4 : St → Int → Int → Int → Option Rs) (s : St) (x1 : Int) (x3 : Int) (z0 : Int) (z1 : Int) : Option Rs :=
  bd (z1 + z0) fun v1 => bd (x3 + 1) fun v2 => k4 s x1 v1 v2
set_option maxHeartbeats 4000000 in
set_option maxRecDepth 100000 in
theorem c_x8_toldHeads_30 {sc : xS} {d : Nat} {R : Rs} (N : Nat)  (hd : 0 ≤ d) (k4 : St → Int → Int → Int → Option Rs) (hk4 : ∀ (s : St) (x1 : Int) (x2 : Int) (x3 : Int), k4 s x1 x2 x3 = some R → vT sc d 193 4 [(0, .ref 77), (1, vi x1), (2, vi x2), (3, vi x3)] [] s (fun r => r = qI R))  (s : St) (x1 : Int) (x3 : Int) (z0 : Int) (z1 : Int) : d_x8_toldHeads_30 N k4 s x1 x3 z0 z1 = some R → vT sc d 193 30 [(0, .ref 77), (1, vi x1), (3, vi x3)] [vi z0, vi z1] s (fun r => r = qI R) := by
  unfold d_x8_toldHeads_30
  refine vIadd 31 i193_30 rfl ?_
  refine vSin 32 (fun v1 => [(2, vi v1), (0, .ref 77), (1, vi x1), (3, vi x3)]) i193_31 m193 (by decide) (fun v1 => (rfl : xst1 [(0, .ref 77), (1, vi x1), (3, vi x3)] 2 (vi v1) = [(2, vi v1), (0, .ref 77), (1, vi x1), (3, vi x3)])) rfl (fun v1 => ?_)
  refine vInc 35 (fun v2 => [(3, vi v2), (2, vi v1), (0, .ref 77), (1, vi x1)]) i193_32 m193 (by decide) rfl (fun _ => rfl) rfl (fun v2 => ?_)
  refine vGo 4 i193_35 rfl ?_
  exact fun hD => tLc [(0, .ref 77), (1, vi x1), (2, vi v1), (3, vi v2)] (xNdk [0, 1, 2, 3] rfl (by decide)) (xNdk [3, 2, 0, 1] rfl (by decide)) ⟨rfl, rfl, rfl, rfl, trivial⟩ (hk4 s x1 v1 v2 hD)
def d_x8_toldHeads_4 (N : Nat)  (k4 : St → Int → Int → Int → Option Rs) (s : St) (x1 : Int) (x2 : Int) (x3 : Int) : Option Rs :=
  (if (w32 x3) < 64 then if 0 ≤ (w32 ((64 * x1) + x3)) ∧ (w32 ((64 * x1) + x3)) < ((12288 : Nat) : Int) then (if (w32 (s 91 (Int.toNat (w32 ((64 * x1) + x3))))) = 0 then d_x8_toldHeads_30 N k4 s x1 x3 0 x2 else d_x8_toldHeads_30 N k4 s x1 x3 1 x2) else none else some (s, x2))
def d_x8_toldHeads_4L (N : Nat)  : Nat → St → Int → Int → Int → Option Rs
  | 0 => fun _ _ _ _ => none
  | n + 1 => d_x8_toldHeads_4 N  (d_x8_toldHeads_4L N  n)
set_option maxHeartbeats 4000000 in
set_option maxRecDepth 100000 in
theorem c_x8_toldHeads_4 {sc : xS} {d : Nat} {R : Rs} (N : Nat)  (hd : 0 ≤ d)   (k4 : St → Int → Int → Int → Option Rs) (hk4 : ∀ (s : St) (x1 : Int) (x2 : Int) (x3 : Int), k4 s x1 x2 x3 = some R → vT sc d 193 4 [(0, .ref 77), (1, vi x1), (2, vi x2), (3, vi x3)] [] s (fun r => r = qI R)) (s : St) (x1 : Int) (x2 : Int) (x3 : Int) : d_x8_toldHeads_4 N  k4 s x1 x2 x3 = some R → vT sc d 193 4 [(0, .ref 77), (1, vi x1), (2, vi x2), (3, vi x3)] [] s (fun r => r = qI R) := by
  unfold d_x8_toldHeads_4
  refine vLin 5 i193_4 rfl rfl ?_
  refine vKb 7 i193_5 (by decide) rfl ?_
  refine vCge 38 10 rfl (show w32 64 = 64 from rfl) i193_7 rfl rfl ?_ ?_
  · refine vLin 39 i193_38 rfl rfl ?_
    exact vRi i193_39 m193 rfl
  · refine vLin 11 i193_10 rfl rfl ?_
    refine vLan 12 i193_11 rfl rfl ?_
    refine vGetC 15 i193_12 f193_58 sh_77 rfl rfl ?_
    refine vKb 17 i193_15 (by decide) rfl ?_
    refine vLin 18 i193_17 rfl rfl ?_
    refine vImul 19 i193_18 rfl ?_
    refine vLin 20 i193_19 rfl rfl ?_
    refine vIadd 21 i193_20 rfl ?_
    refine vIal 22 rfl i193_21 sh_91 rfl ?_
    refine vZne 29 25 rfl i193_22 rfl rfl ?_ ?_
    · refine vK 30 i193_29 rfl ?_
      exact fun hD => tLc [(0, .ref 77), (1, vi x1), (3, vi x3)] (xNdk [0, 1, 3] rfl (by decide)) (xNdk [0, 1, 2, 3] rfl (by decide)) ⟨rfl, rfl, rfl, trivial⟩ (c_x8_toldHeads_30 N  hd k4 hk4 s x1 x3 1 x2 hD)
    · refine vK 26 i193_25 rfl ?_
      refine vGo 30 i193_26 rfl ?_
      exact fun hD => tLc [(0, .ref 77), (1, vi x1), (3, vi x3)] (xNdk [0, 1, 3] rfl (by decide)) (xNdk [0, 1, 2, 3] rfl (by decide)) ⟨rfl, rfl, rfl, trivial⟩ (c_x8_toldHeads_30 N  hd k4 hk4 s x1 x3 0 x2 hD)
theorem c_x8_toldHeads_4L {sc : xS} {d : Nat} {R : Rs} (N : Nat)  (hd : 0 ≤ d)   : ∀ (n : Nat) (s : St) (x1 : Int) (x2 : Int) (x3 : Int), d_x8_toldHeads_4L N  n s x1 x2 x3 = some R → vT sc d 193 4 [(0, .ref 77), (1, vi x1), (2, vi x2), (3, vi x3)] [] s (fun r => r = qI R) := by
  intro n
  induction n with
  | zero => intro s x1 x2 x3 hD; cases hD
  | succ n ih => intro s x1 x2 x3 hD; exact c_x8_toldHeads_4 N  hd  _ ih s x1 x2 x3 hD
def d_x8_toldHeads (N : Nat)  (s : St) (a0 : Int) : Option Rs :=
  d_x8_toldHeads_4L N  N s a0 0 0
set_option maxHeartbeats 4000000 in
set_option maxRecDepth 100000 in
theorem c_x8_toldHeads {sc : xS} {d : Nat} {R : Rs} (N : Nat)  (hd : 0 ≤ d)   (s : St) (a0 : Int) : d_x8_toldHeads N  s a0 = some R → vT sc d 193 0 [(0, .ref 77), (1, vi a0)] [] s (fun r => r = qI R) := by
  unfold d_x8_toldHeads
  refine vK 1 i193_0 rfl ?_
  refine vSin0 2 [(2, vi 0), (0, .ref 77), (1, vi a0)] i193_1 m193 (by decide) rfl rfl ?_
  refine vK 3 i193_2 rfl ?_
  refine vSin0 4 [(3, vi 0), (2, vi 0), (0, .ref 77), (1, vi a0)] i193_3 m193 (by decide) rfl rfl ?_
  exact fun hD => tLc [(0, .ref 77), (1, vi a0), (2, vi 0), (3, vi 0)] (xNdk [0, 1, 2, 3] rfl (by decide)) (xNdk [3, 2, 0, 1] rfl (by decide)) ⟨rfl, rfl, rfl, rfl, trivial⟩ (c_x8_toldHeads_4L N  hd  N s a0 0 0 hD)
theorem f173_13 : xFld xg 173 13 = some (7, 1) := by decide +kernel
theorem f173_45 : xFld xg 173 45 = some (7, 11) := by decide +kernel
theorem f173_17 : xFld xg 173 17 = some (7, 2) := by decide +kernel
theorem f173_33 : xFld xg 173 33 = some (7, 7) := by decide +kernel
theorem f173_42 : xFld xg 173 42 = some (7, 10) := by decide +kernel
theorem f173_23 : xFld xg 173 23 = some (7, 4) := by decide +kernel
theorem i173_0 : xIns xg 173 0 = some (.iload_n 1) := by decide +kernel
theorem i173_1 : xIns xg 173 1 = some (.invokestatic 266) := by decide +kernel
theorem i173_4 : xIns xg 173 4 = some (.ifCond .eq 15) := by decide +kernel
theorem i173_19 : xIns xg 173 19 = some (.bipush (-2)) := by decide +kernel
theorem i173_21 : xIns xg 173 21 = some (.ireturn) := by decide +kernel
theorem m173 : (xMet xg 173).2.2 = (5, (some .int)) := by decide +kernel
theorem i173_7 : xIns xg 173 7 = some (.iload_n 3) := by decide +kernel
theorem i173_8 : xIns xg 173 8 = some (.i2l) := by decide +kernel
theorem i173_9 : xIns xg 173 9 = some (.lconst 0) := by decide +kernel
theorem i173_10 : xIns xg 173 10 = some (.ldc2_w 274) := by decide +kernel
theorem c173_274 : xCon xg 173 274 = some (vl (5)) := by decide +kernel
theorem i173_13 : xIns xg 173 13 = some (.invokestatic 177) := by decide +kernel
theorem i173_16 : xIns xg 173 16 = some (.ifCond .ne 6) := by decide +kernel
theorem i173_22 : xIns xg 173 22 = some (.aload_n 0) := by decide +kernel
theorem i173_23 : xIns xg 173 23 = some (.getfield 13) := by decide +kernel
theorem i173_26 : xIns xg 173 26 = some (.iload_n 1) := by decide +kernel
theorem i173_27 : xIns xg 173 27 = some (.iaload) := by decide +kernel
theorem i173_28 : xIns xg 173 28 = some (.ifCond .ne 6) := by decide +kernel
theorem i173_34 : xIns xg 173 34 = some (.aload_n 0) := by decide +kernel
theorem i173_35 : xIns xg 173 35 = some (.iload_n 1) := by decide +kernel
theorem i173_36 : xIns xg 173 36 = some (.iload_n 2) := by decide +kernel
theorem i173_37 : xIns xg 173 37 = some (.invokevirtual 276) := by decide +kernel
theorem i173_40 : xIns xg 173 40 = some (.ifCond .ne 6) := by decide +kernel
theorem i173_46 : xIns xg 173 46 = some (.bipush 24) := by decide +kernel
theorem i173_48 : xIns xg 173 48 = some (.iload_n 1) := by decide +kernel
theorem i173_49 : xIns xg 173 49 = some (.imul) := by decide +kernel
theorem i173_50 : xIns xg 173 50 = some (.iload_n 2) := by decide +kernel
theorem i173_51 : xIns xg 173 51 = some (.iadd) := by decide +kernel
theorem i173_52 : xIns xg 173 52 = some (.istore 4) := by decide +kernel
theorem i173_54 : xIns xg 173 54 = some (.iload_n 3) := by decide +kernel
theorem i173_55 : xIns xg 173 55 = some (.iconst 3) := by decide +kernel
theorem i173_56 : xIns xg 173 56 = some (.if_icmp .ge 40) := by decide +kernel
theorem i173_96 : xIns xg 173 96 = some (.iload_n 3) := by decide +kernel
theorem i173_97 : xIns xg 173 97 = some (.iconst 3) := by decide +kernel
theorem i173_98 : xIns xg 173 98 = some (.if_icmp .ne 12) := by decide +kernel
theorem i173_110 : xIns xg 173 110 = some (.iload_n 3) := by decide +kernel
theorem i173_111 : xIns xg 173 111 = some (.iconst 5) := by decide +kernel
theorem i173_112 : xIns xg 173 112 = some (.if_icmp .ne 28) := by decide +kernel
theorem i173_140 : xIns xg 173 140 = some (.aload_n 0) := by decide +kernel
theorem i173_141 : xIns xg 173 141 = some (.getfield 45) := by decide +kernel
theorem i173_144 : xIns xg 173 144 = some (.iload 4) := by decide +kernel
theorem i173_146 : xIns xg 173 146 = some (.iaload) := by decide +kernel
theorem i173_147 : xIns xg 173 147 = some (.ifCond .ne 7) := by decide +kernel
theorem i173_154 : xIns xg 173 154 = some (.aload_n 0) := by decide +kernel
theorem i173_155 : xIns xg 173 155 = some (.getfield 45) := by decide +kernel
theorem i173_158 : xIns xg 173 158 = some (.iload 4) := by decide +kernel
theorem i173_160 : xIns xg 173 160 = some (.iaload) := by decide +kernel
theorem i173_161 : xIns xg 173 161 = some (.iconst 1) := by decide +kernel
theorem i173_162 : xIns xg 173 162 = some (.if_icmp .ne 7) := by decide +kernel
theorem i173_169 : xIns xg 173 169 = some (.aload_n 0) := by decide +kernel
theorem i173_170 : xIns xg 173 170 = some (.getfield 45) := by decide +kernel
theorem i173_173 : xIns xg 173 173 = some (.iload 4) := by decide +kernel
theorem i173_175 : xIns xg 173 175 = some (.iaload) := by decide +kernel
theorem i173_176 : xIns xg 173 176 = some (.ireturn) := by decide +kernel
theorem i173_165 : xIns xg 173 165 = some (.iconst 0) := by decide +kernel
theorem i173_166 : xIns xg 173 166 = some (.goto 10) := by decide +kernel
theorem i173_150 : xIns xg 173 150 = some (.iconst 1) := by decide +kernel
theorem i173_151 : xIns xg 173 151 = some (.goto 25) := by decide +kernel
theorem i173_115 : xIns xg 173 115 = some (.aload_n 0) := by decide +kernel
theorem i173_116 : xIns xg 173 116 = some (.getfield 17) := by decide +kernel
theorem i173_119 : xIns xg 173 119 = some (.iload 4) := by decide +kernel
theorem i173_121 : xIns xg 173 121 = some (.iaload) := by decide +kernel
theorem i173_122 : xIns xg 173 122 = some (.iconst 2) := by decide +kernel
theorem i173_123 : xIns xg 173 123 = some (.if_icmp .ne 13) := by decide +kernel
theorem i173_136 : xIns xg 173 136 = some (.iconst (-1)) := by decide +kernel
theorem i173_137 : xIns xg 173 137 = some (.goto 39) := by decide +kernel
theorem i173_126 : xIns xg 173 126 = some (.aload_n 0) := by decide +kernel
theorem i173_127 : xIns xg 173 127 = some (.getfield 33) := by decide +kernel
theorem i173_130 : xIns xg 173 130 = some (.iload 4) := by decide +kernel
theorem i173_132 : xIns xg 173 132 = some (.iaload) := by decide +kernel
theorem i173_133 : xIns xg 173 133 = some (.goto 43) := by decide +kernel
theorem i173_101 : xIns xg 173 101 = some (.aload_n 0) := by decide +kernel
theorem i173_102 : xIns xg 173 102 = some (.iload 4) := by decide +kernel
theorem i173_104 : xIns xg 173 104 = some (.invokevirtual 279) := by decide +kernel
theorem i173_107 : xIns xg 173 107 = some (.goto 69) := by decide +kernel
theorem i173_59 : xIns xg 173 59 = some (.iload_n 3) := by decide +kernel
theorem i173_60 : xIns xg 173 60 = some (.ifCond .ne 13) := by decide +kernel
theorem i173_73 : xIns xg 173 73 = some (.iload_n 3) := by decide +kernel
theorem i173_74 : xIns xg 173 74 = some (.iconst 1) := by decide +kernel
theorem i173_75 : xIns xg 173 75 = some (.if_icmp .ne 13) := by decide +kernel
theorem i173_88 : xIns xg 173 88 = some (.aload_n 0) := by decide +kernel
theorem i173_89 : xIns xg 173 89 = some (.getfield 42) := by decide +kernel
theorem i173_92 : xIns xg 173 92 = some (.iload 4) := by decide +kernel
theorem i173_94 : xIns xg 173 94 = some (.iaload) := by decide +kernel
theorem i173_95 : xIns xg 173 95 = some (.ireturn) := by decide +kernel
theorem i173_78 : xIns xg 173 78 = some (.aload_n 0) := by decide +kernel
theorem i173_79 : xIns xg 173 79 = some (.getfield 23) := by decide +kernel
theorem i173_82 : xIns xg 173 82 = some (.iload 4) := by decide +kernel
theorem i173_84 : xIns xg 173 84 = some (.iaload) := by decide +kernel
theorem i173_85 : xIns xg 173 85 = some (.goto 10) := by decide +kernel
theorem i173_63 : xIns xg 173 63 = some (.aload_n 0) := by decide +kernel
theorem i173_64 : xIns xg 173 64 = some (.getfield 17) := by decide +kernel
theorem i173_67 : xIns xg 173 67 = some (.iload 4) := by decide +kernel
theorem i173_69 : xIns xg 173 69 = some (.iaload) := by decide +kernel
theorem i173_70 : xIns xg 173 70 = some (.goto 25) := by decide +kernel
theorem i173_43 : xIns xg 173 43 = some (.bipush (-12)) := by decide +kernel
theorem i173_45 : xIns xg 173 45 = some (.ireturn) := by decide +kernel
theorem i173_31 : xIns xg 173 31 = some (.bipush (-3)) := by decide +kernel
theorem i173_33 : xIns xg 173 33 = some (.ireturn) := by decide +kernel
def d_x8_part (N : Nat)  (s : St) (a0 : Int) (a1 : Int) (a2 : Int) : Option Rs :=
  bI (d_x8_isStream N  s a0) fun s1 v2 => (if (w32 v2) = 0 then some (s1, (-2)) else bI (d_x8_in N  s1 (w32 a2) 0 5) fun s3 v4 => (if (w32 v4) = 0 then some (s3, (-2)) else if 0 ≤ (w32 a0) ∧ (w32 a0) < ((8 : Nat) : Int) then (if (w32 (s3 78 (Int.toNat (w32 a0)))) = 0 then some (s3, (-3)) else bI (d_x8_isPart N  s3 a0 a1) fun s5 v6 => (if (w32 v6) = 0 then some (s5, (-12)) else bd ((24 * a0) + a1) fun v7 => (if (w32 a2) < 3 then (if (w32 a2) = 0 then if 0 ≤ (w32 v7) ∧ (w32 v7) < ((192 : Nat) : Int) then some (s5, (s5 79 (Int.toNat (w32 v7)))) else none else (if (w32 a2) = 1 then if 0 ≤ (w32 v7) ∧ (w32 v7) < ((192 : Nat) : Int) then some (s5, (s5 81 (Int.toNat (w32 v7)))) else none else if 0 ≤ (w32 v7) ∧ (w32 v7) < ((192 : Nat) : Int) then some (s5, (s5 86 (Int.toNat (w32 v7)))) else none)) else (if (w32 a2) = 3 then bI (d_x8_toldHeads N  s5 v7) fun s8 v9 => some (s8, v9) else (if (w32 a2) = 5 then if 0 ≤ (w32 v7) ∧ (w32 v7) < ((192 : Nat) : Int) then (if (w32 (s5 79 (Int.toNat (w32 v7)))) = 2 then if 0 ≤ (w32 v7) ∧ (w32 v7) < ((192 : Nat) : Int) then some (s5, (s5 84 (Int.toNat (w32 v7)))) else none else some (s5, (-1))) else none else if 0 ≤ (w32 v7) ∧ (w32 v7) < ((192 : Nat) : Int) then (if (w32 (s5 87 (Int.toNat (w32 v7)))) = 0 then some (s5, 1) else if 0 ≤ (w32 v7) ∧ (w32 v7) < ((192 : Nat) : Int) then (if (w32 (s5 87 (Int.toNat (w32 v7)))) = 1 then some (s5, 0) else if 0 ≤ (w32 v7) ∧ (w32 v7) < ((192 : Nat) : Int) then some (s5, (s5 87 (Int.toNat (w32 v7)))) else none) else none) else none))))) else none))
set_option maxHeartbeats 4000000 in
set_option maxRecDepth 100000 in
theorem c_x8_part {sc : xS} {d : Nat} {R : Rs} (N : Nat)  (hd : 2 ≤ d)   (s : St) (a0 : Int) (a1 : Int) (a2 : Int) : d_x8_part N  s a0 a1 a2 = some R → vT sc d 173 0 [(0, .ref 77), (1, vi a0), (2, vi a1), (3, vi a2)] [] s (fun r => r = qI R) := by
  obtain ⟨d, rfl⟩ : ∃ d', d = d' + 1 := ⟨d - 1, by omega⟩
  unfold d_x8_part
  refine vLin 1 i173_0 rfl rfl ?_
  refine vCallI 4 [vi a0] [] [(0, vi a0)] i173_1 rfl (xlk1 l173_266) (Or.inr (Or.inl rfl)) m153 rfl rfl (Nat.le_of_ble_eq_true rfl) (Nat.le_of_ble_eq_true rfl) (Nat.le_of_ble_eq_true rfl) rfl rfl rfl (fun R1 => c_x8_isStream N   (by omega) s a0) (fun s1 v2 => ?_)
  refine vZeq 19 7 rfl i173_4 rfl rfl ?_ ?_
  · refine vKb 21 i173_19 (by decide) rfl ?_
    exact vRi i173_21 m173 rfl
  · refine vLin 8 i173_7 rfl rfl ?_
    refine vI2l 9 i173_8 rfl ?_
    refine vKl 10 0 i173_9 (by decide) rfl ?_
    refine vKd 13 i173_10 c173_274 rfl ?_
    refine vCallI 16 [vl (w32 a2), vl 0, vl 5] [] [(0, vl (w32 a2)), (2, vl 0), (4, vl 5)] i173_13 rfl (xlk1 l173_177) (Or.inr (Or.inl rfl)) m142 rfl rfl (Nat.le_of_ble_eq_true rfl) (Nat.le_of_ble_eq_true rfl) (Nat.le_of_ble_eq_true rfl) rfl rfl rfl (fun R1 => c_x8_in N   (by omega) s1 (w32 a2) 0 5) (fun s3 v4 => ?_)
    refine vZne 22 19 rfl i173_16 rfl rfl ?_ ?_
    · refine vLan 23 i173_22 rfl rfl ?_
      refine vGetC 26 i173_23 f173_13 sh_77 rfl rfl ?_
      refine vLin 27 i173_26 rfl rfl ?_
      refine vIal 28 rfl i173_27 sh_78 rfl ?_
      refine vZne 34 31 rfl i173_28 rfl rfl ?_ ?_
      · refine vLan 35 i173_34 rfl rfl ?_
        refine vLin 36 i173_35 rfl rfl ?_
        refine vLin 37 i173_36 rfl rfl ?_
        refine vCallI 40 [.ref 77, vi a0, vi a1] [] [(0, .ref 77), (1, vi a0), (2, vi a1)] i173_37 rfl (xlk0 l173_276) (Or.inl rfl) m148 rfl rfl (Nat.le_of_ble_eq_true rfl) (Nat.le_of_ble_eq_true rfl) (Nat.le_of_ble_eq_true rfl) (xh0 sh_77 (by decide)) rfl rfl (fun R1 => c_x8_isPart N   (by omega) s3 a0 a1) (fun s5 v6 => ?_)
        refine vZne 46 43 rfl i173_40 rfl rfl ?_ ?_
        · refine vKb 48 i173_46 (by decide) rfl ?_
          refine vLin 49 i173_48 rfl rfl ?_
          refine vImul 50 i173_49 rfl ?_
          refine vLin 51 i173_50 rfl rfl ?_
          refine vIadd 52 i173_51 rfl ?_
          refine vSi 54 (fun v7 => [(4, vi v7), (0, .ref 77), (1, vi a0), (2, vi a1), (3, vi a2)]) i173_52 m173 (by decide) (fun v7 => (rfl : xst1 [(0, .ref 77), (1, vi a0), (2, vi a1), (3, vi a2)] 4 (vi v7) = [(4, vi v7), (0, .ref 77), (1, vi a0), (2, vi a1), (3, vi a2)])) rfl (fun v7 => ?_)
          refine vLin 55 i173_54 rfl rfl ?_
          refine vK 56 i173_55 rfl ?_
          refine vCge 96 59 rfl (show w32 3 = 3 from rfl) i173_56 rfl rfl ?_ ?_
          · refine vLin 97 i173_96 rfl rfl ?_
            refine vK 98 i173_97 rfl ?_
            refine vCne 110 101 rfl (show w32 3 = 3 from rfl) i173_98 rfl rfl ?_ ?_
            · refine vLin 111 i173_110 rfl rfl ?_
              refine vK 112 i173_111 rfl ?_
              refine vCne 140 115 rfl (show w32 5 = 5 from rfl) i173_112 rfl rfl ?_ ?_
              · refine vLan 141 i173_140 rfl rfl ?_
                refine vGetC 144 i173_141 f173_45 sh_77 rfl rfl ?_
                refine vLi 146 i173_144 rfl rfl ?_
                refine vIal 147 rfl i173_146 sh_87 rfl ?_
                refine vZne 154 150 rfl i173_147 rfl rfl ?_ ?_
                · refine vLan 155 i173_154 rfl rfl ?_
                  refine vGetC 158 i173_155 f173_45 sh_77 rfl rfl ?_
                  refine vLi 160 i173_158 rfl rfl ?_
                  refine vIal 161 rfl i173_160 sh_87 rfl ?_
                  refine vK 162 i173_161 rfl ?_
                  refine vCne 169 165 rfl (show w32 1 = 1 from rfl) i173_162 rfl rfl ?_ ?_
                  · refine vLan 170 i173_169 rfl rfl ?_
                    refine vGetC 173 i173_170 f173_45 sh_77 rfl rfl ?_
                    refine vLi 175 i173_173 rfl rfl ?_
                    refine vIal 176 rfl i173_175 sh_87 rfl ?_
                    exact vRi i173_176 m173 rfl
                  · refine vK 166 i173_165 rfl ?_
                    refine vGo 176 i173_166 rfl ?_
                    exact vRi i173_176 m173 rfl
                · refine vK 151 i173_150 rfl ?_
                  refine vGo 176 i173_151 rfl ?_
                  exact vRi i173_176 m173 rfl
              · refine vLan 116 i173_115 rfl rfl ?_
                refine vGetC 119 i173_116 f173_17 sh_77 rfl rfl ?_
                refine vLi 121 i173_119 rfl rfl ?_
                refine vIal 122 rfl i173_121 sh_79 rfl ?_
                refine vK 123 i173_122 rfl ?_
                refine vCne 136 126 rfl (show w32 2 = 2 from rfl) i173_123 rfl rfl ?_ ?_
                · refine vK 137 i173_136 rfl ?_
                  refine vGo 176 i173_137 rfl ?_
                  exact vRi i173_176 m173 rfl
                · refine vLan 127 i173_126 rfl rfl ?_
                  refine vGetC 130 i173_127 f173_33 sh_77 rfl rfl ?_
                  refine vLi 132 i173_130 rfl rfl ?_
                  refine vIal 133 rfl i173_132 sh_84 rfl ?_
                  refine vGo 176 i173_133 rfl ?_
                  exact vRi i173_176 m173 rfl
            · refine vLan 102 i173_101 rfl rfl ?_
              refine vLi 104 i173_102 rfl rfl ?_
              refine vCallI 107 [.ref 77, vi v7] [] [(0, .ref 77), (1, vi v7)] i173_104 rfl (xlk0 l173_279) (Or.inl rfl) m193 rfl rfl (Nat.le_of_ble_eq_true rfl) (Nat.le_of_ble_eq_true rfl) (Nat.le_of_ble_eq_true rfl) (xh0 sh_77 (by decide)) rfl rfl (fun R1 => c_x8_toldHeads N   (by omega) s5 v7) (fun s8 v9 => ?_)
              refine vGo 176 i173_107 rfl ?_
              exact vRi i173_176 m173 rfl
          · refine vLin 60 i173_59 rfl rfl ?_
            refine vZne 73 63 rfl i173_60 rfl rfl ?_ ?_
            · refine vLin 74 i173_73 rfl rfl ?_
              refine vK 75 i173_74 rfl ?_
              refine vCne 88 78 rfl (show w32 1 = 1 from rfl) i173_75 rfl rfl ?_ ?_
              · refine vLan 89 i173_88 rfl rfl ?_
                refine vGetC 92 i173_89 f173_42 sh_77 rfl rfl ?_
                refine vLi 94 i173_92 rfl rfl ?_
                refine vIal 95 rfl i173_94 sh_86 rfl ?_
                exact vRi i173_95 m173 rfl
              · refine vLan 79 i173_78 rfl rfl ?_
                refine vGetC 82 i173_79 f173_23 sh_77 rfl rfl ?_
                refine vLi 84 i173_82 rfl rfl ?_
                refine vIal 85 rfl i173_84 sh_81 rfl ?_
                refine vGo 95 i173_85 rfl ?_
                exact vRi i173_95 m173 rfl
            · refine vLan 64 i173_63 rfl rfl ?_
              refine vGetC 67 i173_64 f173_17 sh_77 rfl rfl ?_
              refine vLi 69 i173_67 rfl rfl ?_
              refine vIal 70 rfl i173_69 sh_79 rfl ?_
              refine vGo 95 i173_70 rfl ?_
              exact vRi i173_95 m173 rfl
        · refine vKb 45 i173_43 (by decide) rfl ?_
          exact vRi i173_45 m173 rfl
      · refine vKb 33 i173_31 (by decide) rfl ?_
        exact vRi i173_33 m173 rfl
    · refine vKb 21 i173_19 (by decide) rfl ?_
      exact vRi i173_21 m173 rfl
theorem i147_43 : xIns xg 147 43 = some (.iconst 1) := by decide +kernel
theorem i147_44 : xIns xg 147 44 = some (.goto 4) := by decide +kernel
theorem i147_48 : xIns xg 147 48 = some (.ireturn) := by decide +kernel
theorem m147 : (xMet xg 147).2.2 = (1, (some .boolean)) := by decide +kernel
theorem i147_0 : xIns xg 147 0 = some (.iload_n 0) := by decide +kernel
theorem i147_1 : xIns xg 147 1 = some (.iconst 1) := by decide +kernel
theorem i147_2 : xIns xg 147 2 = some (.if_icmp .eq 41) := by decide +kernel
theorem i147_5 : xIns xg 147 5 = some (.iload_n 0) := by decide +kernel
theorem i147_6 : xIns xg 147 6 = some (.i2l) := by decide +kernel
theorem i147_7 : xIns xg 147 7 = some (.ldc2_w 272) := by decide +kernel
theorem c147_272 : xCon xg 147 272 = some (vl (3)) := by decide +kernel
theorem i147_10 : xIns xg 147 10 = some (.ldc2_w 274) := by decide +kernel
theorem c147_274 : xCon xg 147 274 = some (vl (5)) := by decide +kernel
theorem i147_13 : xIns xg 147 13 = some (.invokestatic 177) := by decide +kernel
theorem i147_16 : xIns xg 147 16 = some (.ifCond .ne 27) := by decide +kernel
theorem i147_19 : xIns xg 147 19 = some (.iload_n 0) := by decide +kernel
theorem i147_20 : xIns xg 147 20 = some (.bipush 8) := by decide +kernel
theorem i147_22 : xIns xg 147 22 = some (.if_icmp .eq 21) := by decide +kernel
theorem i147_25 : xIns xg 147 25 = some (.iload_n 0) := by decide +kernel
theorem i147_26 : xIns xg 147 26 = some (.bipush 9) := by decide +kernel
theorem i147_28 : xIns xg 147 28 = some (.if_icmp .eq 15) := by decide +kernel
theorem i147_31 : xIns xg 147 31 = some (.iload_n 0) := by decide +kernel
theorem i147_32 : xIns xg 147 32 = some (.bipush 12) := by decide +kernel
theorem i147_34 : xIns xg 147 34 = some (.if_icmp .eq 9) := by decide +kernel
theorem i147_37 : xIns xg 147 37 = some (.iload_n 0) := by decide +kernel
theorem i147_38 : xIns xg 147 38 = some (.bipush 13) := by decide +kernel
theorem i147_40 : xIns xg 147 40 = some (.if_icmp .ne 7) := by decide +kernel
theorem i147_47 : xIns xg 147 47 = some (.iconst 0) := by decide +kernel
def d_x8_isNumbered_43 (N : Nat)  (s : St)  : Option Rs :=
  some (s, 1)
set_option maxHeartbeats 4000000 in
set_option maxRecDepth 100000 in
theorem c_x8_isNumbered_43 {sc : xS} {d : Nat} {R : Rs} (N : Nat)  (hd : 1 ≤ d)   (s : St)  : d_x8_isNumbered_43 N  s  = some R → vT sc d 147 43 [] [] s (fun r => r = qI R) := by
  obtain ⟨d, rfl⟩ : ∃ d', d = d' + 1 := ⟨d - 1, by omega⟩
  unfold d_x8_isNumbered_43
  refine vK 44 i147_43 rfl ?_
  refine vGo 48 i147_44 rfl ?_
  exact vRi i147_48 m147 (by decide)
def d_x8_isNumbered (N : Nat)  (s : St) (a0 : Int) : Option Rs :=
  (if (w32 a0) = 1 then d_x8_isNumbered_43 N  s  else bI (d_x8_in N  s (w32 a0) 3 5) fun s1 v2 => (if (w32 v2) = 0 then (if (w32 a0) = 8 then d_x8_isNumbered_43 N  s1  else (if (w32 a0) = 9 then d_x8_isNumbered_43 N  s1  else (if (w32 a0) = 12 then d_x8_isNumbered_43 N  s1  else (if (w32 a0) = 13 then d_x8_isNumbered_43 N  s1  else some (s1, 0))))) else d_x8_isNumbered_43 N  s1 ))
set_option maxHeartbeats 4000000 in
set_option maxRecDepth 100000 in
theorem c_x8_isNumbered {sc : xS} {d : Nat} {R : Rs} (N : Nat)  (hd : 1 ≤ d)   (s : St) (a0 : Int) : d_x8_isNumbered N  s a0 = some R → vT sc d 147 0 [(0, vi a0)] [] s (fun r => r = qI R) := by
  obtain ⟨d, rfl⟩ : ∃ d', d = d' + 1 := ⟨d - 1, by omega⟩
  unfold d_x8_isNumbered
  refine vLin 1 i147_0 rfl rfl ?_
  refine vK 2 i147_1 rfl ?_
  refine vCeq 43 5 rfl (show w32 1 = 1 from rfl) i147_2 rfl rfl ?_ ?_
  · exact fun hD => tLc [] (xNdk [] rfl (by decide)) (xNdk [0] rfl (by decide)) trivial (c_x8_isNumbered_43 N  hd  s  hD)
  · refine vLin 6 i147_5 rfl rfl ?_
    refine vI2l 7 i147_6 rfl ?_
    refine vKd 10 i147_7 c147_272 rfl ?_
    refine vKd 13 i147_10 c147_274 rfl ?_
    refine vCallI 16 [vl (w32 a0), vl 3, vl 5] [] [(0, vl (w32 a0)), (2, vl 3), (4, vl 5)] i147_13 rfl (xlk1 l147_177) (Or.inr (Or.inl rfl)) m142 rfl rfl (Nat.le_of_ble_eq_true rfl) (Nat.le_of_ble_eq_true rfl) (Nat.le_of_ble_eq_true rfl) rfl rfl rfl (fun R1 => c_x8_in N   (by omega) s (w32 a0) 3 5) (fun s1 v2 => ?_)
    refine vZne 43 19 rfl i147_16 rfl rfl ?_ ?_
    · exact fun hD => tLc [] (xNdk [] rfl (by decide)) (xNdk [0] rfl (by decide)) trivial (c_x8_isNumbered_43 N  hd  s1  hD)
    · refine vLin 20 i147_19 rfl rfl ?_
      refine vKb 22 i147_20 (by decide) rfl ?_
      refine vCeq 43 25 rfl (show w32 8 = 8 from rfl) i147_22 rfl rfl ?_ ?_
      · exact fun hD => tLc [] (xNdk [] rfl (by decide)) (xNdk [0] rfl (by decide)) trivial (c_x8_isNumbered_43 N  hd  s1  hD)
      · refine vLin 26 i147_25 rfl rfl ?_
        refine vKb 28 i147_26 (by decide) rfl ?_
        refine vCeq 43 31 rfl (show w32 9 = 9 from rfl) i147_28 rfl rfl ?_ ?_
        · exact fun hD => tLc [] (xNdk [] rfl (by decide)) (xNdk [0] rfl (by decide)) trivial (c_x8_isNumbered_43 N  hd  s1  hD)
        · refine vLin 32 i147_31 rfl rfl ?_
          refine vKb 34 i147_32 (by decide) rfl ?_
          refine vCeq 43 37 rfl (show w32 12 = 12 from rfl) i147_34 rfl rfl ?_ ?_
          · exact fun hD => tLc [] (xNdk [] rfl (by decide)) (xNdk [0] rfl (by decide)) trivial (c_x8_isNumbered_43 N  hd  s1  hD)
          · refine vLin 38 i147_37 rfl rfl ?_
            refine vKb 40 i147_38 (by decide) rfl ?_
            refine vCne 47 43 rfl (show w32 13 = 13 from rfl) i147_40 rfl rfl ?_ ?_
            · refine vK 48 i147_47 rfl ?_
              exact vRi i147_48 m147 (by decide)
            · exact fun hD => tLc [] (xNdk [] rfl (by decide)) (xNdk [0] rfl (by decide)) trivial (c_x8_isNumbered_43 N  hd  s1  hD)
theorem f169_17 : xFld xg 169 17 = some (7, 2) := by decide +kernel
theorem f169_26 : xFld xg 169 26 = some (7, 5) := by decide +kernel
theorem i169_0 : xIns xg 169 0 = some (.iload_n 1) := by decide +kernel
theorem i169_1 : xIns xg 169 1 = some (.invokestatic 266) := by decide +kernel
theorem i169_4 : xIns xg 169 4 = some (.ifCond .eq 43) := by decide +kernel
theorem i169_47 : xIns xg 169 47 = some (.ldc2_w 285) := by decide +kernel
theorem c169_285 : xCon xg 169 285 = some (vl (-4611686018427387904)) := by decide +kernel
theorem i169_50 : xIns xg 169 50 = some (.lreturn) := by decide +kernel
theorem m169 : (xMet xg 169).2.2 = (3, (some .long)) := by decide +kernel
theorem i169_7 : xIns xg 169 7 = some (.aload_n 0) := by decide +kernel
theorem i169_8 : xIns xg 169 8 = some (.iload_n 1) := by decide +kernel
theorem i169_9 : xIns xg 169 9 = some (.iload_n 2) := by decide +kernel
theorem i169_10 : xIns xg 169 10 = some (.invokevirtual 276) := by decide +kernel
theorem i169_13 : xIns xg 169 13 = some (.ifCond .eq 34) := by decide +kernel
theorem i169_16 : xIns xg 169 16 = some (.aload_n 0) := by decide +kernel
theorem i169_17 : xIns xg 169 17 = some (.getfield 17) := by decide +kernel
theorem i169_20 : xIns xg 169 20 = some (.bipush 24) := by decide +kernel
theorem i169_22 : xIns xg 169 22 = some (.iload_n 1) := by decide +kernel
theorem i169_23 : xIns xg 169 23 = some (.imul) := by decide +kernel
theorem i169_24 : xIns xg 169 24 = some (.iload_n 2) := by decide +kernel
theorem i169_25 : xIns xg 169 25 = some (.iadd) := by decide +kernel
theorem i169_26 : xIns xg 169 26 = some (.iaload) := by decide +kernel
theorem i169_27 : xIns xg 169 27 = some (.invokestatic 282) := by decide +kernel
theorem i169_30 : xIns xg 169 30 = some (.ifCond .eq 17) := by decide +kernel
theorem i169_33 : xIns xg 169 33 = some (.aload_n 0) := by decide +kernel
theorem i169_34 : xIns xg 169 34 = some (.getfield 26) := by decide +kernel
theorem i169_37 : xIns xg 169 37 = some (.bipush 24) := by decide +kernel
theorem i169_39 : xIns xg 169 39 = some (.iload_n 1) := by decide +kernel
theorem i169_40 : xIns xg 169 40 = some (.imul) := by decide +kernel
theorem i169_41 : xIns xg 169 41 = some (.iload_n 2) := by decide +kernel
theorem i169_42 : xIns xg 169 42 = some (.iadd) := by decide +kernel
theorem i169_43 : xIns xg 169 43 = some (.laload) := by decide +kernel
theorem i169_44 : xIns xg 169 44 = some (.goto 6) := by decide +kernel
def d_x8_number (N : Nat)  (s : St) (a0 : Int) (a1 : Int) : Option Rs :=
  bI (d_x8_isStream N  s a0) fun s1 v2 => (if (w32 v2) = 0 then some (s1, (-4611686018427387904)) else bI (d_x8_isPart N  s1 a0 a1) fun s3 v4 => (if (w32 v4) = 0 then some (s3, (-4611686018427387904)) else if 0 ≤ (w32 ((24 * a0) + a1)) ∧ (w32 ((24 * a0) + a1)) < ((192 : Nat) : Int) then bI (d_x8_isNumbered N  s3 (s3 79 (Int.toNat (w32 ((24 * a0) + a1))))) fun s5 v6 => (if (w32 v6) = 0 then some (s5, (-4611686018427387904)) else if 0 ≤ (w32 ((24 * a0) + a1)) ∧ (w32 ((24 * a0) + a1)) < ((192 : Nat) : Int) then some (s5, (s5 82 (Int.toNat (w32 ((24 * a0) + a1))))) else none) else none))
set_option maxHeartbeats 4000000 in
set_option maxRecDepth 100000 in
theorem c_x8_number {sc : xS} {d : Nat} {R : Rs} (N : Nat)  (hd : 2 ≤ d)   (s : St) (a0 : Int) (a1 : Int) : d_x8_number N  s a0 a1 = some R → vT sc d 169 0 [(0, .ref 77), (1, vi a0), (2, vi a1)] [] s (fun r => r = qL R) := by
  obtain ⟨d, rfl⟩ : ∃ d', d = d' + 1 := ⟨d - 1, by omega⟩
  unfold d_x8_number
  refine vLin 1 i169_0 rfl rfl ?_
  refine vCallI 4 [vi a0] [] [(0, vi a0)] i169_1 rfl (xlk1 l169_266) (Or.inr (Or.inl rfl)) m153 rfl rfl (Nat.le_of_ble_eq_true rfl) (Nat.le_of_ble_eq_true rfl) (Nat.le_of_ble_eq_true rfl) rfl rfl rfl (fun R1 => c_x8_isStream N   (by omega) s a0) (fun s1 v2 => ?_)
  refine vZeq 47 7 rfl i169_4 rfl rfl ?_ ?_
  · refine vKd 50 i169_47 c169_285 rfl ?_
    exact vRl i169_50 m169
  · refine vLan 8 i169_7 rfl rfl ?_
    refine vLin 9 i169_8 rfl rfl ?_
    refine vLin 10 i169_9 rfl rfl ?_
    refine vCallI 13 [.ref 77, vi a0, vi a1] [] [(0, .ref 77), (1, vi a0), (2, vi a1)] i169_10 rfl (xlk0 l169_276) (Or.inl rfl) m148 rfl rfl (Nat.le_of_ble_eq_true rfl) (Nat.le_of_ble_eq_true rfl) (Nat.le_of_ble_eq_true rfl) (xh0 sh_77 (by decide)) rfl rfl (fun R1 => c_x8_isPart N   (by omega) s1 a0 a1) (fun s3 v4 => ?_)
    refine vZeq 47 16 rfl i169_13 rfl rfl ?_ ?_
    · refine vKd 50 i169_47 c169_285 rfl ?_
      exact vRl i169_50 m169
    · refine vLan 17 i169_16 rfl rfl ?_
      refine vGetC 20 i169_17 f169_17 sh_77 rfl rfl ?_
      refine vKb 22 i169_20 (by decide) rfl ?_
      refine vLin 23 i169_22 rfl rfl ?_
      refine vImul 24 i169_23 rfl ?_
      refine vLin 25 i169_24 rfl rfl ?_
      refine vIadd 26 i169_25 rfl ?_
      refine vIal 27 rfl i169_26 sh_79 rfl ?_
      refine vCallI 30 [vi (s3 79 (Int.toNat (w32 ((24 * a0) + a1))))] [] [(0, vi (s3 79 (Int.toNat (w32 ((24 * a0) + a1)))))] i169_27 rfl (xlk1 l169_282) (Or.inr (Or.inl rfl)) m147 rfl rfl (Nat.le_of_ble_eq_true rfl) (Nat.le_of_ble_eq_true rfl) (Nat.le_of_ble_eq_true rfl) rfl rfl rfl (fun R1 => c_x8_isNumbered N   (by omega) s3 (s3 79 (Int.toNat (w32 ((24 * a0) + a1))))) (fun s5 v6 => ?_)
      refine vZeq 47 33 rfl i169_30 rfl rfl ?_ ?_
      · refine vKd 50 i169_47 c169_285 rfl ?_
        exact vRl i169_50 m169
      · refine vLan 34 i169_33 rfl rfl ?_
        refine vGetC 37 i169_34 f169_26 sh_77 rfl rfl ?_
        refine vKb 39 i169_37 (by decide) rfl ?_
        refine vLin 40 i169_39 rfl rfl ?_
        refine vImul 41 i169_40 rfl ?_
        refine vLin 42 i169_41 rfl rfl ?_
        refine vIadd 43 i169_42 rfl ?_
        refine vLal 44 rfl i169_43 sh_82 rfl ?_
        refine vGo 50 i169_44 rfl ?_
        exact vRl i169_50 m169
theorem f129_17 : xFld xg 129 17 = some (7, 2) := by decide +kernel
theorem f129_33 : xFld xg 129 33 = some (7, 7) := by decide +kernel
theorem f129_36 : xFld xg 129 36 = some (7, 8) := by decide +kernel
theorem i129_0 : xIns xg 129 0 = some (.iload_n 1) := by decide +kernel
theorem i129_1 : xIns xg 129 1 = some (.invokestatic 266) := by decide +kernel
theorem i129_4 : xIns xg 129 4 = some (.ifCond .eq 69) := by decide +kernel
theorem i129_73 : xIns xg 129 73 = some (.ldc2_w 285) := by decide +kernel
theorem c129_285 : xCon xg 129 285 = some (vl (-4611686018427387904)) := by decide +kernel
theorem i129_76 : xIns xg 129 76 = some (.lreturn) := by decide +kernel
theorem m129 : (xMet xg 129).2.2 = (4, (some .long)) := by decide +kernel
theorem i129_7 : xIns xg 129 7 = some (.aload_n 0) := by decide +kernel
theorem i129_8 : xIns xg 129 8 = some (.iload_n 1) := by decide +kernel
theorem i129_9 : xIns xg 129 9 = some (.iload_n 2) := by decide +kernel
theorem i129_10 : xIns xg 129 10 = some (.invokevirtual 276) := by decide +kernel
theorem i129_13 : xIns xg 129 13 = some (.ifCond .eq 60) := by decide +kernel
theorem i129_16 : xIns xg 129 16 = some (.aload_n 0) := by decide +kernel
theorem i129_17 : xIns xg 129 17 = some (.getfield 17) := by decide +kernel
theorem i129_20 : xIns xg 129 20 = some (.bipush 24) := by decide +kernel
theorem i129_22 : xIns xg 129 22 = some (.iload_n 1) := by decide +kernel
theorem i129_23 : xIns xg 129 23 = some (.imul) := by decide +kernel
theorem i129_24 : xIns xg 129 24 = some (.iload_n 2) := by decide +kernel
theorem i129_25 : xIns xg 129 25 = some (.iadd) := by decide +kernel
theorem i129_26 : xIns xg 129 26 = some (.iaload) := by decide +kernel
theorem i129_27 : xIns xg 129 27 = some (.iconst 2) := by decide +kernel
theorem i129_28 : xIns xg 129 28 = some (.if_icmp .ne 45) := by decide +kernel
theorem i129_31 : xIns xg 129 31 = some (.iload_n 3) := by decide +kernel
theorem i129_32 : xIns xg 129 32 = some (.i2l) := by decide +kernel
theorem i129_33 : xIns xg 129 33 = some (.lconst 0) := by decide +kernel
theorem i129_34 : xIns xg 129 34 = some (.aload_n 0) := by decide +kernel
theorem i129_35 : xIns xg 129 35 = some (.getfield 33) := by decide +kernel
theorem i129_38 : xIns xg 129 38 = some (.bipush 24) := by decide +kernel
theorem i129_40 : xIns xg 129 40 = some (.iload_n 1) := by decide +kernel
theorem i129_41 : xIns xg 129 41 = some (.imul) := by decide +kernel
theorem i129_42 : xIns xg 129 42 = some (.iload_n 2) := by decide +kernel
theorem i129_43 : xIns xg 129 43 = some (.iadd) := by decide +kernel
theorem i129_44 : xIns xg 129 44 = some (.iaload) := by decide +kernel
theorem i129_45 : xIns xg 129 45 = some (.iconst 1) := by decide +kernel
theorem i129_46 : xIns xg 129 46 = some (.isub) := by decide +kernel
theorem i129_47 : xIns xg 129 47 = some (.i2l) := by decide +kernel
theorem i129_48 : xIns xg 129 48 = some (.invokestatic 177) := by decide +kernel
theorem i129_51 : xIns xg 129 51 = some (.ifCond .eq 22) := by decide +kernel
theorem i129_54 : xIns xg 129 54 = some (.aload_n 0) := by decide +kernel
theorem i129_55 : xIns xg 129 55 = some (.getfield 36) := by decide +kernel
theorem i129_58 : xIns xg 129 58 = some (.bipush 8) := by decide +kernel
theorem i129_60 : xIns xg 129 60 = some (.bipush 24) := by decide +kernel
theorem i129_62 : xIns xg 129 62 = some (.iload_n 1) := by decide +kernel
theorem i129_63 : xIns xg 129 63 = some (.imul) := by decide +kernel
theorem i129_64 : xIns xg 129 64 = some (.iload_n 2) := by decide +kernel
theorem i129_65 : xIns xg 129 65 = some (.iadd) := by decide +kernel
theorem i129_66 : xIns xg 129 66 = some (.imul) := by decide +kernel
theorem i129_67 : xIns xg 129 67 = some (.iload_n 3) := by decide +kernel
theorem i129_68 : xIns xg 129 68 = some (.iadd) := by decide +kernel
theorem i129_69 : xIns xg 129 69 = some (.laload) := by decide +kernel
theorem i129_70 : xIns xg 129 70 = some (.goto 6) := by decide +kernel
def d_x8_entry (N : Nat)  (s : St) (a0 : Int) (a1 : Int) (a2 : Int) : Option Rs :=
  bI (d_x8_isStream N  s a0) fun s1 v2 => (if (w32 v2) = 0 then some (s1, (-4611686018427387904)) else bI (d_x8_isPart N  s1 a0 a1) fun s3 v4 => (if (w32 v4) = 0 then some (s3, (-4611686018427387904)) else if 0 ≤ (w32 ((24 * a0) + a1)) ∧ (w32 ((24 * a0) + a1)) < ((192 : Nat) : Int) then (if (w32 (s3 79 (Int.toNat (w32 ((24 * a0) + a1))))) = 2 then if 0 ≤ (w32 ((24 * a0) + a1)) ∧ (w32 ((24 * a0) + a1)) < ((192 : Nat) : Int) then bI (d_x8_in N  s3 (w32 a2) 0 (w32 ((s3 84 (Int.toNat (w32 ((24 * a0) + a1)))) - 1))) fun s5 v6 => (if (w32 v6) = 0 then some (s5, (-4611686018427387904)) else if 0 ≤ (w32 ((8 * ((24 * a0) + a1)) + a2)) ∧ (w32 ((8 * ((24 * a0) + a1)) + a2)) < ((1536 : Nat) : Int) then some (s5, (s5 85 (Int.toNat (w32 ((8 * ((24 * a0) + a1)) + a2))))) else none) else none else some (s3, (-4611686018427387904))) else none))
set_option maxHeartbeats 4000000 in
set_option maxRecDepth 100000 in
theorem c_x8_entry {sc : xS} {d : Nat} {R : Rs} (N : Nat)  (hd : 2 ≤ d)   (s : St) (a0 : Int) (a1 : Int) (a2 : Int) : d_x8_entry N  s a0 a1 a2 = some R → vT sc d 129 0 [(0, .ref 77), (1, vi a0), (2, vi a1), (3, vi a2)] [] s (fun r => r = qL R) := by
  obtain ⟨d, rfl⟩ : ∃ d', d = d' + 1 := ⟨d - 1, by omega⟩
  unfold d_x8_entry
  refine vLin 1 i129_0 rfl rfl ?_
  refine vCallI 4 [vi a0] [] [(0, vi a0)] i129_1 rfl (xlk1 l129_266) (Or.inr (Or.inl rfl)) m153 rfl rfl (Nat.le_of_ble_eq_true rfl) (Nat.le_of_ble_eq_true rfl) (Nat.le_of_ble_eq_true rfl) rfl rfl rfl (fun R1 => c_x8_isStream N   (by omega) s a0) (fun s1 v2 => ?_)
  refine vZeq 73 7 rfl i129_4 rfl rfl ?_ ?_
  · refine vKd 76 i129_73 c129_285 rfl ?_
    exact vRl i129_76 m129
  · refine vLan 8 i129_7 rfl rfl ?_
    refine vLin 9 i129_8 rfl rfl ?_
    refine vLin 10 i129_9 rfl rfl ?_
    refine vCallI 13 [.ref 77, vi a0, vi a1] [] [(0, .ref 77), (1, vi a0), (2, vi a1)] i129_10 rfl (xlk0 l129_276) (Or.inl rfl) m148 rfl rfl (Nat.le_of_ble_eq_true rfl) (Nat.le_of_ble_eq_true rfl) (Nat.le_of_ble_eq_true rfl) (xh0 sh_77 (by decide)) rfl rfl (fun R1 => c_x8_isPart N   (by omega) s1 a0 a1) (fun s3 v4 => ?_)
    refine vZeq 73 16 rfl i129_13 rfl rfl ?_ ?_
    · refine vKd 76 i129_73 c129_285 rfl ?_
      exact vRl i129_76 m129
    · refine vLan 17 i129_16 rfl rfl ?_
      refine vGetC 20 i129_17 f129_17 sh_77 rfl rfl ?_
      refine vKb 22 i129_20 (by decide) rfl ?_
      refine vLin 23 i129_22 rfl rfl ?_
      refine vImul 24 i129_23 rfl ?_
      refine vLin 25 i129_24 rfl rfl ?_
      refine vIadd 26 i129_25 rfl ?_
      refine vIal 27 rfl i129_26 sh_79 rfl ?_
      refine vK 28 i129_27 rfl ?_
      refine vCne 73 31 rfl (show w32 2 = 2 from rfl) i129_28 rfl rfl ?_ ?_
      · refine vKd 76 i129_73 c129_285 rfl ?_
        exact vRl i129_76 m129
      · refine vLin 32 i129_31 rfl rfl ?_
        refine vI2l 33 i129_32 rfl ?_
        refine vKl 34 0 i129_33 (by decide) rfl ?_
        refine vLan 35 i129_34 rfl rfl ?_
        refine vGetC 38 i129_35 f129_33 sh_77 rfl rfl ?_
        refine vKb 40 i129_38 (by decide) rfl ?_
        refine vLin 41 i129_40 rfl rfl ?_
        refine vImul 42 i129_41 rfl ?_
        refine vLin 43 i129_42 rfl rfl ?_
        refine vIadd 44 i129_43 rfl ?_
        refine vIal 45 rfl i129_44 sh_84 rfl ?_
        refine vK 46 i129_45 rfl ?_
        refine vIsub 47 i129_46 rfl ?_
        refine vI2l 48 i129_47 rfl ?_
        refine vCallI 51 [vl (w32 a2), vl 0, vl (w32 ((s3 84 (Int.toNat (w32 ((24 * a0) + a1)))) - 1))] [] [(0, vl (w32 a2)), (2, vl 0), (4, vl (w32 ((s3 84 (Int.toNat (w32 ((24 * a0) + a1)))) - 1)))] i129_48 rfl (xlk1 l129_177) (Or.inr (Or.inl rfl)) m142 rfl rfl (Nat.le_of_ble_eq_true rfl) (Nat.le_of_ble_eq_true rfl) (Nat.le_of_ble_eq_true rfl) rfl rfl rfl (fun R1 => c_x8_in N   (by omega) s3 (w32 a2) 0 (w32 ((s3 84 (Int.toNat (w32 ((24 * a0) + a1)))) - 1))) (fun s5 v6 => ?_)
        refine vZeq 73 54 rfl i129_51 rfl rfl ?_ ?_
        · refine vKd 76 i129_73 c129_285 rfl ?_
          exact vRl i129_76 m129
        · refine vLan 55 i129_54 rfl rfl ?_
          refine vGetC 58 i129_55 f129_36 sh_77 rfl rfl ?_
          refine vKb 60 i129_58 (by decide) rfl ?_
          refine vKb 62 i129_60 (by decide) rfl ?_
          refine vLin 63 i129_62 rfl rfl ?_
          refine vImul 64 i129_63 rfl ?_
          refine vLin 65 i129_64 rfl rfl ?_
          refine vIadd 66 i129_65 rfl ?_
          refine vImul 67 i129_66 rfl ?_
          refine vLin 68 i129_67 rfl rfl ?_
          refine vIadd 69 i129_68 rfl ?_
          refine vLal 70 rfl i129_69 sh_85 rfl ?_
          refine vGo 76 i129_70 rfl ?_
          exact vRl i129_76 m129
theorem f194_13 : xFld xg 194 13 = some (7, 1) := by decide +kernel
theorem f194_17 : xFld xg 194 17 = some (7, 2) := by decide +kernel
theorem f194_26 : xFld xg 194 26 = some (7, 5) := by decide +kernel
theorem i194_127 : xIns xg 194 127 = some (.aload_n 0) := by decide +kernel
theorem i194_128 : xIns xg 194 128 = some (.getfield 26) := by decide +kernel
theorem i194_131 : xIns xg 194 131 = some (.iload 4) := by decide +kernel
theorem i194_133 : xIns xg 194 133 = some (.iload_n 3) := by decide +kernel
theorem i194_134 : xIns xg 194 134 = some (.i2l) := by decide +kernel
theorem i194_135 : xIns xg 194 135 = some (.lastore) := by decide +kernel
theorem i194_136 : xIns xg 194 136 = some (.aload_n 0) := by decide +kernel
theorem i194_137 : xIns xg 194 137 = some (.invokevirtual 269) := by decide +kernel
theorem i194_140 : xIns xg 194 140 = some (.iconst 1) := by decide +kernel
theorem i194_141 : xIns xg 194 141 = some (.ireturn) := by decide +kernel
theorem m194 : (xMet xg 194).2.2 = (5, (some .int)) := by decide +kernel
theorem i194_100 : xIns xg 194 100 = some (.aload_n 0) := by decide +kernel
theorem i194_101 : xIns xg 194 101 = some (.getfield 17) := by decide +kernel
theorem i194_104 : xIns xg 194 104 = some (.iload 4) := by decide +kernel
theorem i194_106 : xIns xg 194 106 = some (.iaload) := by decide +kernel
theorem i194_107 : xIns xg 194 107 = some (.bipush 13) := by decide +kernel
theorem i194_109 : xIns xg 194 109 = some (.if_icmp .ne 18) := by decide +kernel
theorem i194_112 : xIns xg 194 112 = some (.iload_n 3) := by decide +kernel
theorem i194_113 : xIns xg 194 113 = some (.i2l) := by decide +kernel
theorem i194_114 : xIns xg 194 114 = some (.lconst 1) := by decide +kernel
theorem i194_115 : xIns xg 194 115 = some (.ldc2_w 291) := by decide +kernel
theorem c194_291 : xCon xg 194 291 = some (vl (9)) := by decide +kernel
theorem i194_118 : xIns xg 194 118 = some (.invokestatic 177) := by decide +kernel
theorem i194_121 : xIns xg 194 121 = some (.ifCond .ne 6) := by decide +kernel
theorem i194_124 : xIns xg 194 124 = some (.bipush (-2)) := by decide +kernel
theorem i194_126 : xIns xg 194 126 = some (.ireturn) := by decide +kernel
theorem i194_96 : xIns xg 194 96 = some (.iload_n 3) := by decide +kernel
theorem i194_97 : xIns xg 194 97 = some (.ifCond .lt 27) := by decide +kernel
theorem i194_0 : xIns xg 194 0 = some (.iload_n 1) := by decide +kernel
theorem i194_1 : xIns xg 194 1 = some (.invokestatic 266) := by decide +kernel
theorem i194_4 : xIns xg 194 4 = some (.ifCond .eq 17) := by decide +kernel
theorem i194_21 : xIns xg 194 21 = some (.bipush (-2)) := by decide +kernel
theorem i194_23 : xIns xg 194 23 = some (.ireturn) := by decide +kernel
theorem i194_7 : xIns xg 194 7 = some (.iload_n 3) := by decide +kernel
theorem i194_8 : xIns xg 194 8 = some (.i2l) := by decide +kernel
theorem i194_9 : xIns xg 194 9 = some (.ldc2_w 287) := by decide +kernel
theorem c194_287 : xCon xg 194 287 = some (vl (-9999)) := by decide +kernel
theorem i194_12 : xIns xg 194 12 = some (.ldc2_w 289) := by decide +kernel
theorem c194_289 : xCon xg 194 289 = some (vl (9999)) := by decide +kernel
theorem i194_15 : xIns xg 194 15 = some (.invokestatic 177) := by decide +kernel
theorem i194_18 : xIns xg 194 18 = some (.ifCond .ne 6) := by decide +kernel
theorem i194_24 : xIns xg 194 24 = some (.aload_n 0) := by decide +kernel
theorem i194_25 : xIns xg 194 25 = some (.getfield 13) := by decide +kernel
theorem i194_28 : xIns xg 194 28 = some (.iload_n 1) := by decide +kernel
theorem i194_29 : xIns xg 194 29 = some (.iaload) := by decide +kernel
theorem i194_30 : xIns xg 194 30 = some (.ifCond .ne 6) := by decide +kernel
theorem i194_36 : xIns xg 194 36 = some (.aload_n 0) := by decide +kernel
theorem i194_37 : xIns xg 194 37 = some (.iload_n 1) := by decide +kernel
theorem i194_38 : xIns xg 194 38 = some (.iload_n 2) := by decide +kernel
theorem i194_39 : xIns xg 194 39 = some (.invokevirtual 276) := by decide +kernel
theorem i194_42 : xIns xg 194 42 = some (.ifCond .ne 6) := by decide +kernel
theorem i194_48 : xIns xg 194 48 = some (.bipush 24) := by decide +kernel
theorem i194_50 : xIns xg 194 50 = some (.iload_n 1) := by decide +kernel
theorem i194_51 : xIns xg 194 51 = some (.imul) := by decide +kernel
theorem i194_52 : xIns xg 194 52 = some (.iload_n 2) := by decide +kernel
theorem i194_53 : xIns xg 194 53 = some (.iadd) := by decide +kernel
theorem i194_54 : xIns xg 194 54 = some (.istore 4) := by decide +kernel
theorem i194_56 : xIns xg 194 56 = some (.aload_n 0) := by decide +kernel
theorem i194_57 : xIns xg 194 57 = some (.getfield 17) := by decide +kernel
theorem i194_60 : xIns xg 194 60 = some (.iload 4) := by decide +kernel
theorem i194_62 : xIns xg 194 62 = some (.iaload) := by decide +kernel
theorem i194_63 : xIns xg 194 63 = some (.invokestatic 282) := by decide +kernel
theorem i194_66 : xIns xg 194 66 = some (.ifCond .ne 6) := by decide +kernel
theorem i194_72 : xIns xg 194 72 = some (.aload_n 0) := by decide +kernel
theorem i194_73 : xIns xg 194 73 = some (.getfield 17) := by decide +kernel
theorem i194_76 : xIns xg 194 76 = some (.iload 4) := by decide +kernel
theorem i194_78 : xIns xg 194 78 = some (.iaload) := by decide +kernel
theorem i194_79 : xIns xg 194 79 = some (.bipush 8) := by decide +kernel
theorem i194_81 : xIns xg 194 81 = some (.if_icmp .eq 15) := by decide +kernel
theorem i194_84 : xIns xg 194 84 = some (.aload_n 0) := by decide +kernel
theorem i194_85 : xIns xg 194 85 = some (.getfield 17) := by decide +kernel
theorem i194_88 : xIns xg 194 88 = some (.iload 4) := by decide +kernel
theorem i194_90 : xIns xg 194 90 = some (.iaload) := by decide +kernel
theorem i194_91 : xIns xg 194 91 = some (.bipush 9) := by decide +kernel
theorem i194_93 : xIns xg 194 93 = some (.if_icmp .ne 7) := by decide +kernel
theorem i194_69 : xIns xg 194 69 = some (.bipush (-13)) := by decide +kernel
theorem i194_71 : xIns xg 194 71 = some (.ireturn) := by decide +kernel
theorem i194_45 : xIns xg 194 45 = some (.bipush (-12)) := by decide +kernel
theorem i194_47 : xIns xg 194 47 = some (.ireturn) := by decide +kernel
theorem i194_33 : xIns xg 194 33 = some (.bipush (-3)) := by decide +kernel
theorem i194_35 : xIns xg 194 35 = some (.ireturn) := by decide +kernel
def d_x8_twist_127 (N : Nat)  (s : St) (x3 : Int) (x4 : Int) : Option Rs :=
  if 0 ≤ (w32 x4) ∧ (w32 x4) < ((192 : Nat) : Int) then bd (up s 82 (Int.toNat (w32 x4)) (w32 x3)) fun s1 => bV (d_x8_untells N  s1 ) fun s2 => some (s2, 1) else none
set_option maxHeartbeats 4000000 in
set_option maxRecDepth 100000 in
theorem c_x8_twist_127 {sc : xS} {d : Nat} {R : Rs} (N : Nat)  (hd : 2 ≤ d)   (s : St) (x3 : Int) (x4 : Int) : d_x8_twist_127 N  s x3 x4 = some R → vT sc d 194 127 [(0, .ref 77), (3, vi x3), (4, vi x4)] [] s (fun r => r = qI R) := by
  obtain ⟨d, rfl⟩ : ∃ d', d = d' + 1 := ⟨d - 1, by omega⟩
  unfold d_x8_twist_127
  refine vLan 128 i194_127 rfl rfl ?_
  refine vGetC 131 i194_128 f194_26 sh_77 rfl rfl ?_
  refine vLi 133 i194_131 rfl rfl ?_
  refine vLin 134 i194_133 rfl rfl ?_
  refine vI2l 135 i194_134 rfl ?_
  refine vLas 136 rfl i194_135 sh_82 rfl (fun s1 => ?_)
  refine vLan 137 i194_136 rfl rfl ?_
  refine vCallV 140 [.ref 77] [] [(0, .ref 77)] i194_137 rfl (xlk0 l194_269) (Or.inl rfl) m195 rfl rfl (Nat.le_of_ble_eq_true rfl) (Nat.le_of_ble_eq_true rfl) (Nat.le_of_ble_eq_true rfl) (xh0 sh_77 (by decide)) rfl rfl (fun R1 => c_x8_untells N   (by omega) s1 ) (fun s2 => ?_)
  refine vK 141 i194_140 rfl ?_
  exact vRi i194_141 m194 rfl
def d_x8_twist_100 (N : Nat)  (s : St) (x3 : Int) (x4 : Int) : Option Rs :=
  if 0 ≤ (w32 x4) ∧ (w32 x4) < ((192 : Nat) : Int) then (if (w32 (s 79 (Int.toNat (w32 x4)))) = 13 then bI (d_x8_in N  s (w32 x3) 1 9) fun s4 v5 => (if (w32 v5) = 0 then some (s4, (-2)) else d_x8_twist_127 N  s4 x3 x4) else d_x8_twist_127 N  s x3 x4) else none
set_option maxHeartbeats 4000000 in
set_option maxRecDepth 100000 in
theorem c_x8_twist_100 {sc : xS} {d : Nat} {R : Rs} (N : Nat)  (hd : 2 ≤ d)   (s : St) (x3 : Int) (x4 : Int) : d_x8_twist_100 N  s x3 x4 = some R → vT sc d 194 100 [(0, .ref 77), (3, vi x3), (4, vi x4)] [] s (fun r => r = qI R) := by
  obtain ⟨d, rfl⟩ : ∃ d', d = d' + 1 := ⟨d - 1, by omega⟩
  unfold d_x8_twist_100
  refine vLan 101 i194_100 rfl rfl ?_
  refine vGetC 104 i194_101 f194_17 sh_77 rfl rfl ?_
  refine vLi 106 i194_104 rfl rfl ?_
  refine vIal 107 rfl i194_106 sh_79 rfl ?_
  refine vKb 109 i194_107 (by decide) rfl ?_
  refine vCne 127 112 rfl (show w32 13 = 13 from rfl) i194_109 rfl rfl ?_ ?_
  · exact fun hD => c_x8_twist_127 N  hd  s x3 x4 hD
  · refine vLin 113 i194_112 rfl rfl ?_
    refine vI2l 114 i194_113 rfl ?_
    refine vKl 115 1 i194_114 (by decide) rfl ?_
    refine vKd 118 i194_115 c194_291 rfl ?_
    refine vCallI 121 [vl (w32 x3), vl 1, vl 9] [] [(0, vl (w32 x3)), (2, vl 1), (4, vl 9)] i194_118 rfl (xlk1 l194_177) (Or.inr (Or.inl rfl)) m142 rfl rfl (Nat.le_of_ble_eq_true rfl) (Nat.le_of_ble_eq_true rfl) (Nat.le_of_ble_eq_true rfl) rfl rfl rfl (fun R1 => c_x8_in N   (by omega) s (w32 x3) 1 9) (fun s4 v5 => ?_)
    refine vZne 127 124 rfl i194_121 rfl rfl ?_ ?_
    · exact fun hD => c_x8_twist_127 N  hd  s4 x3 x4 hD
    · refine vKb 126 i194_124 (by decide) rfl ?_
      exact vRi i194_126 m194 rfl
def d_x8_twist_96 (N : Nat)  (s : St) (x3 : Int) (x4 : Int) : Option Rs :=
  (if (w32 x3) < 0 then some (s, (-2)) else d_x8_twist_100 N  s x3 x4)
set_option maxHeartbeats 4000000 in
set_option maxRecDepth 100000 in
theorem c_x8_twist_96 {sc : xS} {d : Nat} {R : Rs} (N : Nat)  (hd : 2 ≤ d)   (s : St) (x3 : Int) (x4 : Int) : d_x8_twist_96 N  s x3 x4 = some R → vT sc d 194 96 [(0, .ref 77), (3, vi x3), (4, vi x4)] [] s (fun r => r = qI R) := by
  obtain ⟨d, rfl⟩ : ∃ d', d = d' + 1 := ⟨d - 1, by omega⟩
  unfold d_x8_twist_96
  refine vLin 97 i194_96 rfl rfl ?_
  refine vZlt 124 100 rfl i194_97 rfl rfl ?_ ?_
  · refine vKb 126 i194_124 (by decide) rfl ?_
    exact vRi i194_126 m194 rfl
  · exact fun hD => c_x8_twist_100 N  hd  s x3 x4 hD
def d_x8_twist (N : Nat)  (s : St) (a0 : Int) (a1 : Int) (a2 : Int) : Option Rs :=
  bI (d_x8_isStream N  s a0) fun s6 v7 => (if (w32 v7) = 0 then some (s6, (-2)) else bI (d_x8_in N  s6 (w32 a2) (-9999) 9999) fun s8 v9 => (if (w32 v9) = 0 then some (s8, (-2)) else if 0 ≤ (w32 a0) ∧ (w32 a0) < ((8 : Nat) : Int) then (if (w32 (s8 78 (Int.toNat (w32 a0)))) = 0 then some (s8, (-3)) else bI (d_x8_isPart N  s8 a0 a1) fun s10 v11 => (if (w32 v11) = 0 then some (s10, (-12)) else bd ((24 * a0) + a1) fun v12 => if 0 ≤ (w32 v12) ∧ (w32 v12) < ((192 : Nat) : Int) then bI (d_x8_isNumbered N  s10 (s10 79 (Int.toNat (w32 v12)))) fun s13 v14 => (if (w32 v14) = 0 then some (s13, (-13)) else if 0 ≤ (w32 v12) ∧ (w32 v12) < ((192 : Nat) : Int) then (if (w32 (s13 79 (Int.toNat (w32 v12)))) = 8 then d_x8_twist_96 N  s13 a2 v12 else if 0 ≤ (w32 v12) ∧ (w32 v12) < ((192 : Nat) : Int) then (if (w32 (s13 79 (Int.toNat (w32 v12)))) = 9 then d_x8_twist_96 N  s13 a2 v12 else d_x8_twist_100 N  s13 a2 v12) else none) else none) else none)) else none))
set_option maxHeartbeats 4000000 in
set_option maxRecDepth 100000 in
theorem c_x8_twist {sc : xS} {d : Nat} {R : Rs} (N : Nat)  (hd : 2 ≤ d)   (s : St) (a0 : Int) (a1 : Int) (a2 : Int) : d_x8_twist N  s a0 a1 a2 = some R → vT sc d 194 0 [(0, .ref 77), (1, vi a0), (2, vi a1), (3, vi a2)] [] s (fun r => r = qI R) := by
  obtain ⟨d, rfl⟩ : ∃ d', d = d' + 1 := ⟨d - 1, by omega⟩
  unfold d_x8_twist
  refine vLin 1 i194_0 rfl rfl ?_
  refine vCallI 4 [vi a0] [] [(0, vi a0)] i194_1 rfl (xlk1 l194_266) (Or.inr (Or.inl rfl)) m153 rfl rfl (Nat.le_of_ble_eq_true rfl) (Nat.le_of_ble_eq_true rfl) (Nat.le_of_ble_eq_true rfl) rfl rfl rfl (fun R1 => c_x8_isStream N   (by omega) s a0) (fun s6 v7 => ?_)
  refine vZeq 21 7 rfl i194_4 rfl rfl ?_ ?_
  · refine vKb 23 i194_21 (by decide) rfl ?_
    exact vRi i194_23 m194 rfl
  · refine vLin 8 i194_7 rfl rfl ?_
    refine vI2l 9 i194_8 rfl ?_
    refine vKd 12 i194_9 c194_287 rfl ?_
    refine vKd 15 i194_12 c194_289 rfl ?_
    refine vCallI 18 [vl (w32 a2), vl (-9999), vl 9999] [] [(0, vl (w32 a2)), (2, vl (-9999)), (4, vl 9999)] i194_15 rfl (xlk1 l194_177) (Or.inr (Or.inl rfl)) m142 rfl rfl (Nat.le_of_ble_eq_true rfl) (Nat.le_of_ble_eq_true rfl) (Nat.le_of_ble_eq_true rfl) rfl rfl rfl (fun R1 => c_x8_in N   (by omega) s6 (w32 a2) (-9999) 9999) (fun s8 v9 => ?_)
    refine vZne 24 21 rfl i194_18 rfl rfl ?_ ?_
    · refine vLan 25 i194_24 rfl rfl ?_
      refine vGetC 28 i194_25 f194_13 sh_77 rfl rfl ?_
      refine vLin 29 i194_28 rfl rfl ?_
      refine vIal 30 rfl i194_29 sh_78 rfl ?_
      refine vZne 36 33 rfl i194_30 rfl rfl ?_ ?_
      · refine vLan 37 i194_36 rfl rfl ?_
        refine vLin 38 i194_37 rfl rfl ?_
        refine vLin 39 i194_38 rfl rfl ?_
        refine vCallI 42 [.ref 77, vi a0, vi a1] [] [(0, .ref 77), (1, vi a0), (2, vi a1)] i194_39 rfl (xlk0 l194_276) (Or.inl rfl) m148 rfl rfl (Nat.le_of_ble_eq_true rfl) (Nat.le_of_ble_eq_true rfl) (Nat.le_of_ble_eq_true rfl) (xh0 sh_77 (by decide)) rfl rfl (fun R1 => c_x8_isPart N   (by omega) s8 a0 a1) (fun s10 v11 => ?_)
        refine vZne 48 45 rfl i194_42 rfl rfl ?_ ?_
        · refine vKb 50 i194_48 (by decide) rfl ?_
          refine vLin 51 i194_50 rfl rfl ?_
          refine vImul 52 i194_51 rfl ?_
          refine vLin 53 i194_52 rfl rfl ?_
          refine vIadd 54 i194_53 rfl ?_
          refine vSi 56 (fun v12 => [(4, vi v12), (0, .ref 77), (1, vi a0), (2, vi a1), (3, vi a2)]) i194_54 m194 (by decide) (fun v12 => (rfl : xst1 [(0, .ref 77), (1, vi a0), (2, vi a1), (3, vi a2)] 4 (vi v12) = [(4, vi v12), (0, .ref 77), (1, vi a0), (2, vi a1), (3, vi a2)])) rfl (fun v12 => ?_)
          refine vLan 57 i194_56 rfl rfl ?_
          refine vGetC 60 i194_57 f194_17 sh_77 rfl rfl ?_
          refine vLi 62 i194_60 rfl rfl ?_
          refine vIal 63 rfl i194_62 sh_79 rfl ?_
          refine vCallI 66 [vi (s10 79 (Int.toNat (w32 v12)))] [] [(0, vi (s10 79 (Int.toNat (w32 v12))))] i194_63 rfl (xlk1 l194_282) (Or.inr (Or.inl rfl)) m147 rfl rfl (Nat.le_of_ble_eq_true rfl) (Nat.le_of_ble_eq_true rfl) (Nat.le_of_ble_eq_true rfl) rfl rfl rfl (fun R1 => c_x8_isNumbered N   (by omega) s10 (s10 79 (Int.toNat (w32 v12)))) (fun s13 v14 => ?_)
          refine vZne 72 69 rfl i194_66 rfl rfl ?_ ?_
          · refine vLan 73 i194_72 rfl rfl ?_
            refine vGetC 76 i194_73 f194_17 sh_77 rfl rfl ?_
            refine vLi 78 i194_76 rfl rfl ?_
            refine vIal 79 rfl i194_78 sh_79 rfl ?_
            refine vKb 81 i194_79 (by decide) rfl ?_
            refine vCeq 96 84 rfl (show w32 8 = 8 from rfl) i194_81 rfl rfl ?_ ?_
            · exact fun hD => tLc [(0, .ref 77), (3, vi a2), (4, vi v12)] (xNdk [0, 3, 4] rfl (by decide)) (xNdk [4, 0, 1, 2, 3] rfl (by decide)) ⟨rfl, rfl, rfl, trivial⟩ (c_x8_twist_96 N  hd  s13 a2 v12 hD)
            · refine vLan 85 i194_84 rfl rfl ?_
              refine vGetC 88 i194_85 f194_17 sh_77 rfl rfl ?_
              refine vLi 90 i194_88 rfl rfl ?_
              refine vIal 91 rfl i194_90 sh_79 rfl ?_
              refine vKb 93 i194_91 (by decide) rfl ?_
              refine vCne 100 96 rfl (show w32 9 = 9 from rfl) i194_93 rfl rfl ?_ ?_
              · exact fun hD => tLc [(0, .ref 77), (3, vi a2), (4, vi v12)] (xNdk [0, 3, 4] rfl (by decide)) (xNdk [4, 0, 1, 2, 3] rfl (by decide)) ⟨rfl, rfl, rfl, trivial⟩ (c_x8_twist_100 N  hd  s13 a2 v12 hD)
              · exact fun hD => tLc [(0, .ref 77), (3, vi a2), (4, vi v12)] (xNdk [0, 3, 4] rfl (by decide)) (xNdk [4, 0, 1, 2, 3] rfl (by decide)) ⟨rfl, rfl, rfl, trivial⟩ (c_x8_twist_96 N  hd  s13 a2 v12 hD)
          · refine vKb 71 i194_69 (by decide) rfl ?_
            exact vRi i194_71 m194 rfl
        · refine vKb 47 i194_45 (by decide) rfl ?_
          exact vRi i194_47 m194 rfl
      · refine vKb 35 i194_33 (by decide) rfl ?_
        exact vRi i194_35 m194 rfl
    · refine vKb 23 i194_21 (by decide) rfl ?_
      exact vRi i194_23 m194 rfl
theorem i138_21 : xIns xg 138 21 = some (.iconst 2) := by decide +kernel
theorem i138_22 : xIns xg 138 22 = some (.goto 4) := by decide +kernel
theorem i138_26 : xIns xg 138 26 = some (.ireturn) := by decide +kernel
theorem m138 : (xMet xg 138).2.2 = (1, (some .int)) := by decide +kernel
theorem i138_0 : xIns xg 138 0 = some (.iload_n 0) := by decide +kernel
theorem i138_1 : xIns xg 138 1 = some (.iconst 3) := by decide +kernel
theorem i138_2 : xIns xg 138 2 = some (.if_icmp .ge 7) := by decide +kernel
theorem i138_9 : xIns xg 138 9 = some (.iload_n 0) := by decide +kernel
theorem i138_10 : xIns xg 138 10 = some (.bipush 6) := by decide +kernel
theorem i138_12 : xIns xg 138 12 = some (.if_icmp .eq 9) := by decide +kernel
theorem i138_15 : xIns xg 138 15 = some (.iload_n 0) := by decide +kernel
theorem i138_16 : xIns xg 138 16 = some (.bipush 7) := by decide +kernel
theorem i138_18 : xIns xg 138 18 = some (.if_icmp .ne 7) := by decide +kernel
theorem i138_25 : xIns xg 138 25 = some (.iconst 1) := by decide +kernel
theorem i138_5 : xIns xg 138 5 = some (.iconst 0) := by decide +kernel
theorem i138_6 : xIns xg 138 6 = some (.goto 20) := by decide +kernel
def d_x8_groupOf_21 (N : Nat)  (s : St)  : Option Rs :=
  some (s, 2)
set_option maxHeartbeats 4000000 in
set_option maxRecDepth 100000 in
theorem c_x8_groupOf_21 {sc : xS} {d : Nat} {R : Rs} (N : Nat)  (hd : 0 ≤ d)   (s : St)  : d_x8_groupOf_21 N  s  = some R → vT sc d 138 21 [] [] s (fun r => r = qI R) := by
  unfold d_x8_groupOf_21
  refine vK 22 i138_21 rfl ?_
  refine vGo 26 i138_22 rfl ?_
  exact vRi i138_26 m138 rfl
def d_x8_groupOf (N : Nat)  (s : St) (a0 : Int) : Option Rs :=
  (if (w32 a0) < 3 then some (s, 0) else (if (w32 a0) = 6 then d_x8_groupOf_21 N  s  else (if (w32 a0) = 7 then d_x8_groupOf_21 N  s  else some (s, 1))))
set_option maxHeartbeats 4000000 in
set_option maxRecDepth 100000 in
theorem c_x8_groupOf {sc : xS} {d : Nat} {R : Rs} (N : Nat)  (hd : 0 ≤ d)   (s : St) (a0 : Int) : d_x8_groupOf N  s a0 = some R → vT sc d 138 0 [(0, vi a0)] [] s (fun r => r = qI R) := by
  unfold d_x8_groupOf
  refine vLin 1 i138_0 rfl rfl ?_
  refine vK 2 i138_1 rfl ?_
  refine vCge 9 5 rfl (show w32 3 = 3 from rfl) i138_2 rfl rfl ?_ ?_
  · refine vLin 10 i138_9 rfl rfl ?_
    refine vKb 12 i138_10 (by decide) rfl ?_
    refine vCeq 21 15 rfl (show w32 6 = 6 from rfl) i138_12 rfl rfl ?_ ?_
    · exact fun hD => tLc [] (xNdk [] rfl (by decide)) (xNdk [0] rfl (by decide)) trivial (c_x8_groupOf_21 N  hd  s  hD)
    · refine vLin 16 i138_15 rfl rfl ?_
      refine vKb 18 i138_16 (by decide) rfl ?_
      refine vCne 25 21 rfl (show w32 7 = 7 from rfl) i138_18 rfl rfl ?_ ?_
      · refine vK 26 i138_25 rfl ?_
        exact vRi i138_26 m138 rfl
      · exact fun hD => tLc [] (xNdk [] rfl (by decide)) (xNdk [0] rfl (by decide)) trivial (c_x8_groupOf_21 N  hd  s  hD)
  · refine vK 6 i138_5 rfl ?_
    refine vGo 26 i138_6 rfl ?_
    exact vRi i138_26 m138 rfl
theorem f186_13 : xFld xg 186 13 = some (7, 1) := by decide +kernel
theorem f186_17 : xFld xg 186 17 = some (7, 2) := by decide +kernel
theorem f186_23 : xFld xg 186 23 = some (7, 4) := by decide +kernel
theorem i186_0 : xIns xg 186 0 = some (.iload_n 1) := by decide +kernel
theorem i186_1 : xIns xg 186 1 = some (.invokestatic 266) := by decide +kernel
theorem i186_4 : xIns xg 186 4 = some (.ifCond .eq 15) := by decide +kernel
theorem i186_19 : xIns xg 186 19 = some (.bipush (-2)) := by decide +kernel
theorem i186_21 : xIns xg 186 21 = some (.ireturn) := by decide +kernel
theorem m186 : (xMet xg 186).2.2 = (4, (some .int)) := by decide +kernel
theorem i186_7 : xIns xg 186 7 = some (.iload_n 3) := by decide +kernel
theorem i186_8 : xIns xg 186 8 = some (.i2l) := by decide +kernel
theorem i186_9 : xIns xg 186 9 = some (.lconst 0) := by decide +kernel
theorem i186_10 : xIns xg 186 10 = some (.ldc2_w 293) := by decide +kernel
theorem c186_293 : xCon xg 186 293 = some (vl (2)) := by decide +kernel
theorem i186_13 : xIns xg 186 13 = some (.invokestatic 177) := by decide +kernel
theorem i186_16 : xIns xg 186 16 = some (.ifCond .ne 6) := by decide +kernel
theorem i186_22 : xIns xg 186 22 = some (.aload_n 0) := by decide +kernel
theorem i186_23 : xIns xg 186 23 = some (.getfield 13) := by decide +kernel
theorem i186_26 : xIns xg 186 26 = some (.iload_n 1) := by decide +kernel
theorem i186_27 : xIns xg 186 27 = some (.iaload) := by decide +kernel
theorem i186_28 : xIns xg 186 28 = some (.ifCond .ne 6) := by decide +kernel
theorem i186_34 : xIns xg 186 34 = some (.aload_n 0) := by decide +kernel
theorem i186_35 : xIns xg 186 35 = some (.iload_n 1) := by decide +kernel
theorem i186_36 : xIns xg 186 36 = some (.iload_n 2) := by decide +kernel
theorem i186_37 : xIns xg 186 37 = some (.invokevirtual 276) := by decide +kernel
theorem i186_40 : xIns xg 186 40 = some (.ifCond .ne 6) := by decide +kernel
theorem i186_46 : xIns xg 186 46 = some (.aload_n 0) := by decide +kernel
theorem i186_47 : xIns xg 186 47 = some (.getfield 17) := by decide +kernel
theorem i186_50 : xIns xg 186 50 = some (.bipush 24) := by decide +kernel
theorem i186_52 : xIns xg 186 52 = some (.iload_n 1) := by decide +kernel
theorem i186_53 : xIns xg 186 53 = some (.imul) := by decide +kernel
theorem i186_54 : xIns xg 186 54 = some (.iload_n 2) := by decide +kernel
theorem i186_55 : xIns xg 186 55 = some (.iadd) := by decide +kernel
theorem i186_56 : xIns xg 186 56 = some (.iaload) := by decide +kernel
theorem i186_57 : xIns xg 186 57 = some (.invokestatic 295) := by decide +kernel
theorem i186_60 : xIns xg 186 60 = some (.iload_n 3) := by decide +kernel
theorem i186_61 : xIns xg 186 61 = some (.if_icmp .ne 19) := by decide +kernel
theorem i186_80 : xIns xg 186 80 = some (.bipush (-13)) := by decide +kernel
theorem i186_82 : xIns xg 186 82 = some (.ireturn) := by decide +kernel
theorem i186_64 : xIns xg 186 64 = some (.aload_n 0) := by decide +kernel
theorem i186_65 : xIns xg 186 65 = some (.getfield 23) := by decide +kernel
theorem i186_68 : xIns xg 186 68 = some (.bipush 24) := by decide +kernel
theorem i186_70 : xIns xg 186 70 = some (.iload_n 1) := by decide +kernel
theorem i186_71 : xIns xg 186 71 = some (.imul) := by decide +kernel
theorem i186_72 : xIns xg 186 72 = some (.iload_n 2) := by decide +kernel
theorem i186_73 : xIns xg 186 73 = some (.iadd) := by decide +kernel
theorem i186_74 : xIns xg 186 74 = some (.iaload) := by decide +kernel
theorem i186_75 : xIns xg 186 75 = some (.iconst 1) := by decide +kernel
theorem i186_76 : xIns xg 186 76 = some (.isub) := by decide +kernel
theorem i186_77 : xIns xg 186 77 = some (.goto 5) := by decide +kernel
theorem i186_43 : xIns xg 186 43 = some (.bipush (-12)) := by decide +kernel
theorem i186_45 : xIns xg 186 45 = some (.ireturn) := by decide +kernel
theorem i186_31 : xIns xg 186 31 = some (.bipush (-3)) := by decide +kernel
theorem i186_33 : xIns xg 186 33 = some (.ireturn) := by decide +kernel
def d_x8_taken (N : Nat)  (s : St) (a0 : Int) (a1 : Int) (a2 : Int) : Option Rs :=
  bI (d_x8_isStream N  s a0) fun s1 v2 => (if (w32 v2) = 0 then some (s1, (-2)) else bI (d_x8_in N  s1 (w32 a2) 0 2) fun s3 v4 => (if (w32 v4) = 0 then some (s3, (-2)) else if 0 ≤ (w32 a0) ∧ (w32 a0) < ((8 : Nat) : Int) then (if (w32 (s3 78 (Int.toNat (w32 a0)))) = 0 then some (s3, (-3)) else bI (d_x8_isPart N  s3 a0 a1) fun s5 v6 => (if (w32 v6) = 0 then some (s5, (-12)) else if 0 ≤ (w32 ((24 * a0) + a1)) ∧ (w32 ((24 * a0) + a1)) < ((192 : Nat) : Int) then bI (d_x8_groupOf N  s5 (s5 79 (Int.toNat (w32 ((24 * a0) + a1))))) fun s7 v8 => (if (w32 v8) = (w32 a2) then if 0 ≤ (w32 ((24 * a0) + a1)) ∧ (w32 ((24 * a0) + a1)) < ((192 : Nat) : Int) then some (s7, ((s7 81 (Int.toNat (w32 ((24 * a0) + a1)))) - 1)) else none else some (s7, (-13))) else none)) else none))
set_option maxHeartbeats 4000000 in
set_option maxRecDepth 100000 in
theorem c_x8_taken {sc : xS} {d : Nat} {R : Rs} (N : Nat)  (hd : 2 ≤ d)   (s : St) (a0 : Int) (a1 : Int) (a2 : Int) : d_x8_taken N  s a0 a1 a2 = some R → vT sc d 186 0 [(0, .ref 77), (1, vi a0), (2, vi a1), (3, vi a2)] [] s (fun r => r = qI R) := by
  obtain ⟨d, rfl⟩ : ∃ d', d = d' + 1 := ⟨d - 1, by omega⟩
  unfold d_x8_taken
  refine vLin 1 i186_0 rfl rfl ?_
  refine vCallI 4 [vi a0] [] [(0, vi a0)] i186_1 rfl (xlk1 l186_266) (Or.inr (Or.inl rfl)) m153 rfl rfl (Nat.le_of_ble_eq_true rfl) (Nat.le_of_ble_eq_true rfl) (Nat.le_of_ble_eq_true rfl) rfl rfl rfl (fun R1 => c_x8_isStream N   (by omega) s a0) (fun s1 v2 => ?_)
  refine vZeq 19 7 rfl i186_4 rfl rfl ?_ ?_
  · refine vKb 21 i186_19 (by decide) rfl ?_
    exact vRi i186_21 m186 rfl
  · refine vLin 8 i186_7 rfl rfl ?_
    refine vI2l 9 i186_8 rfl ?_
    refine vKl 10 0 i186_9 (by decide) rfl ?_
    refine vKd 13 i186_10 c186_293 rfl ?_
    refine vCallI 16 [vl (w32 a2), vl 0, vl 2] [] [(0, vl (w32 a2)), (2, vl 0), (4, vl 2)] i186_13 rfl (xlk1 l186_177) (Or.inr (Or.inl rfl)) m142 rfl rfl (Nat.le_of_ble_eq_true rfl) (Nat.le_of_ble_eq_true rfl) (Nat.le_of_ble_eq_true rfl) rfl rfl rfl (fun R1 => c_x8_in N   (by omega) s1 (w32 a2) 0 2) (fun s3 v4 => ?_)
    refine vZne 22 19 rfl i186_16 rfl rfl ?_ ?_
    · refine vLan 23 i186_22 rfl rfl ?_
      refine vGetC 26 i186_23 f186_13 sh_77 rfl rfl ?_
      refine vLin 27 i186_26 rfl rfl ?_
      refine vIal 28 rfl i186_27 sh_78 rfl ?_
      refine vZne 34 31 rfl i186_28 rfl rfl ?_ ?_
      · refine vLan 35 i186_34 rfl rfl ?_
        refine vLin 36 i186_35 rfl rfl ?_
        refine vLin 37 i186_36 rfl rfl ?_
        refine vCallI 40 [.ref 77, vi a0, vi a1] [] [(0, .ref 77), (1, vi a0), (2, vi a1)] i186_37 rfl (xlk0 l186_276) (Or.inl rfl) m148 rfl rfl (Nat.le_of_ble_eq_true rfl) (Nat.le_of_ble_eq_true rfl) (Nat.le_of_ble_eq_true rfl) (xh0 sh_77 (by decide)) rfl rfl (fun R1 => c_x8_isPart N   (by omega) s3 a0 a1) (fun s5 v6 => ?_)
        refine vZne 46 43 rfl i186_40 rfl rfl ?_ ?_
        · refine vLan 47 i186_46 rfl rfl ?_
          refine vGetC 50 i186_47 f186_17 sh_77 rfl rfl ?_
          refine vKb 52 i186_50 (by decide) rfl ?_
          refine vLin 53 i186_52 rfl rfl ?_
          refine vImul 54 i186_53 rfl ?_
          refine vLin 55 i186_54 rfl rfl ?_
          refine vIadd 56 i186_55 rfl ?_
          refine vIal 57 rfl i186_56 sh_79 rfl ?_
          refine vCallI 60 [vi (s5 79 (Int.toNat (w32 ((24 * a0) + a1))))] [] [(0, vi (s5 79 (Int.toNat (w32 ((24 * a0) + a1)))))] i186_57 rfl (xlk1 l186_295) (Or.inr (Or.inl rfl)) m138 rfl rfl (Nat.le_of_ble_eq_true rfl) (Nat.le_of_ble_eq_true rfl) (Nat.le_of_ble_eq_true rfl) rfl rfl rfl (fun R1 => c_x8_groupOf N   (by omega) s5 (s5 79 (Int.toNat (w32 ((24 * a0) + a1))))) (fun s7 v8 => ?_)
          refine vLin 61 i186_60 rfl rfl ?_
          refine vCne 80 64 rfl rfl i186_61 rfl rfl ?_ ?_
          · refine vKb 82 i186_80 (by decide) rfl ?_
            exact vRi i186_82 m186 rfl
          · refine vLan 65 i186_64 rfl rfl ?_
            refine vGetC 68 i186_65 f186_23 sh_77 rfl rfl ?_
            refine vKb 70 i186_68 (by decide) rfl ?_
            refine vLin 71 i186_70 rfl rfl ?_
            refine vImul 72 i186_71 rfl ?_
            refine vLin 73 i186_72 rfl rfl ?_
            refine vIadd 74 i186_73 rfl ?_
            refine vIal 75 rfl i186_74 sh_81 rfl ?_
            refine vK 76 i186_75 rfl ?_
            refine vIsub 77 i186_76 rfl ?_
            refine vGo 82 i186_77 rfl ?_
            exact vRi i186_82 m186 rfl
        · refine vKb 45 i186_43 (by decide) rfl ?_
          exact vRi i186_45 m186 rfl
      · refine vKb 33 i186_31 (by decide) rfl ?_
        exact vRi i186_33 m186 rfl
    · refine vKb 21 i186_19 (by decide) rfl ?_
      exact vRi i186_21 m186 rfl
theorem f180_91 : xFld xg 180 91 = some (7, 34) := by decide +kernel
theorem f180_298 : xFld xg 180 298 = some (7, 35) := by decide +kernel
theorem i180_0 : xIns xg 180 0 = some (.aload_n 0) := by decide +kernel
theorem i180_1 : xIns xg 180 1 = some (.getfield 91) := by decide +kernel
theorem i180_4 : xIns xg 180 4 = some (.aload_n 0) := by decide +kernel
theorem i180_5 : xIns xg 180 5 = some (.getfield 298) := by decide +kernel
theorem i180_8 : xIns xg 180 8 = some (.iload_n 1) := by decide +kernel
theorem i180_9 : xIns xg 180 9 = some (.iastore) := by decide +kernel
theorem i180_10 : xIns xg 180 10 = some (.aload_n 0) := by decide +kernel
theorem i180_11 : xIns xg 180 11 = some (.dup) := by decide +kernel
theorem i180_12 : xIns xg 180 12 = some (.getfield 298) := by decide +kernel
theorem i180_15 : xIns xg 180 15 = some (.iconst 1) := by decide +kernel
theorem i180_16 : xIns xg 180 16 = some (.iadd) := by decide +kernel
theorem i180_17 : xIns xg 180 17 = some (.putfield 298) := by decide +kernel
theorem p180_298 : xPut xg 180 298 = some (7, 35, .int) := by decide +kernel
theorem i180_20 : xIns xg 180 20 = some (.return_) := by decide +kernel
theorem m180 : (xMet xg 180).2.2 = (2, none) := by decide +kernel
def d_x8_puts (N : Nat)  (s : St) (a0 : Int) : Option Rs :=
  if 0 ≤ (w32 (s 77 35)) ∧ (w32 (s 77 35)) < ((4096 : Nat) : Int) then bd (up s 102 (Int.toNat (w32 (s 77 35))) a0) fun s1 => bd (up s1 77 35 ((s1 77 35) + 1)) fun s2 => some (s2, 0) else none
set_option maxHeartbeats 4000000 in
set_option maxRecDepth 100000 in
theorem c_x8_puts {sc : xS} {d : Nat} {R : Rs} (N : Nat)  (hd : 0 ≤ d)   (s : St) (a0 : Int) : d_x8_puts N  s a0 = some R → vT sc d 180 0 [(0, .ref 77), (1, vi a0)] [] s (fun r => r = qV R) := by
  unfold d_x8_puts
  refine vLan 1 i180_0 rfl rfl ?_
  refine vGetC 4 i180_1 f180_91 sh_77 rfl rfl ?_
  refine vLan 5 i180_4 rfl rfl ?_
  refine vGet 8 i180_5 f180_298 sh_77 rfl rfl ?_
  refine vLin 9 i180_8 rfl rfl ?_
  refine vIas 10 rfl i180_9 sh_102 rfl (fun s1 => ?_)
  refine vLan 11 i180_10 rfl rfl ?_
  refine vD 12 i180_11 rfl rfl rfl ?_
  refine vGet 15 i180_12 f180_298 sh_77 rfl rfl ?_
  refine vK 16 i180_15 rfl ?_
  refine vIadd 17 i180_16 rfl ?_
  refine vPut 20 i180_17 p180_298 sh_77 rfl rfl (fun s2 => ?_)
  exact vR0 i180_20 m180
theorem f137_298 : xFld xg 137 298 = some (7, 35) := by decide +kernel
theorem i137_0 : xIns xg 137 0 = some (.aload_n 0) := by decide +kernel
theorem i137_1 : xIns xg 137 1 = some (.getfield 298) := by decide +kernel
theorem i137_4 : xIns xg 137 4 = some (.ifCond .le 9) := by decide +kernel
theorem i137_13 : xIns xg 137 13 = some (.return_) := by decide +kernel
theorem m137 : (xMet xg 137).2.2 = (1, none) := by decide +kernel
theorem i137_7 : xIns xg 137 7 = some (.aload_n 0) := by decide +kernel
theorem i137_8 : xIns xg 137 8 = some (.bipush 32) := by decide +kernel
theorem i137_10 : xIns xg 137 10 = some (.invokevirtual 301) := by decide +kernel
def d_x8_gap (N : Nat)  (s : St)  : Option Rs :=
  (if 0 < (w32 (s 77 35)) then bV (d_x8_puts N  s 32) fun s1 => some (s1, 0) else some (s, 0))
set_option maxHeartbeats 4000000 in
set_option maxRecDepth 100000 in
theorem c_x8_gap {sc : xS} {d : Nat} {R : Rs} (N : Nat)  (hd : 1 ≤ d)   (s : St)  : d_x8_gap N  s  = some R → vT sc d 137 0 [(0, .ref 77)] [] s (fun r => r = qV R) := by
  obtain ⟨d, rfl⟩ : ∃ d', d = d' + 1 := ⟨d - 1, by omega⟩
  unfold d_x8_gap
  refine vLan 1 i137_0 rfl rfl ?_
  refine vGet 4 i137_1 f137_298 sh_77 rfl rfl ?_
  refine vZle 13 7 rfl i137_4 rfl rfl ?_ ?_
  · exact vR0 i137_13 m137
  · refine vLan 8 i137_7 rfl rfl ?_
    refine vKb 10 i137_8 (by decide) rfl ?_
    refine vCallV 13 [.ref 77, vi 32] [] [(0, .ref 77), (1, vi 32)] i137_10 rfl (xlk0 l137_301) (Or.inl rfl) m180 rfl rfl (Nat.le_of_ble_eq_true rfl) (Nat.le_of_ble_eq_true rfl) (Nat.le_of_ble_eq_true rfl) (xh0 sh_77 (by decide)) rfl rfl (fun R1 => c_x8_puts N   (by omega) s 32) (fun s1 => ?_)
    exact vR0 i137_13 m137
theorem f127_298 : xFld xg 127 298 = some (7, 35) := by decide +kernel
theorem f127_91 : xFld xg 127 91 = some (7, 34) := by decide +kernel
theorem i127_103 : xIns xg 127 103 = some (.iload 7) := by decide +kernel
theorem i127_105 : xIns xg 127 105 = some (.iload 8) := by decide +kernel
theorem i127_107 : xIns xg 127 107 = some (.if_icmp .ge 44) := by decide +kernel
theorem i127_151 : xIns xg 127 151 = some (.return_) := by decide +kernel
theorem m127 : (xMet xg 127).2.2 = (10, none) := by decide +kernel
theorem i127_110 : xIns xg 127 110 = some (.aload_n 0) := by decide +kernel
theorem i127_111 : xIns xg 127 111 = some (.getfield 91) := by decide +kernel
theorem i127_114 : xIns xg 127 114 = some (.iload 7) := by decide +kernel
theorem i127_116 : xIns xg 127 116 = some (.iaload) := by decide +kernel
theorem i127_117 : xIns xg 127 117 = some (.istore 9) := by decide +kernel
theorem i127_119 : xIns xg 127 119 = some (.aload_n 0) := by decide +kernel
theorem i127_120 : xIns xg 127 120 = some (.getfield 91) := by decide +kernel
theorem i127_123 : xIns xg 127 123 = some (.iload 7) := by decide +kernel
theorem i127_125 : xIns xg 127 125 = some (.aload_n 0) := by decide +kernel
theorem i127_126 : xIns xg 127 126 = some (.getfield 91) := by decide +kernel
theorem i127_129 : xIns xg 127 129 = some (.iload 8) := by decide +kernel
theorem i127_131 : xIns xg 127 131 = some (.iaload) := by decide +kernel
theorem i127_132 : xIns xg 127 132 = some (.iastore) := by decide +kernel
theorem i127_133 : xIns xg 127 133 = some (.aload_n 0) := by decide +kernel
theorem i127_134 : xIns xg 127 134 = some (.getfield 91) := by decide +kernel
theorem i127_137 : xIns xg 127 137 = some (.iload 8) := by decide +kernel
theorem i127_139 : xIns xg 127 139 = some (.iload 9) := by decide +kernel
theorem i127_141 : xIns xg 127 141 = some (.iastore) := by decide +kernel
theorem i127_142 : xIns xg 127 142 = some (.iinc 8 (-1)) := by decide +kernel
theorem i127_145 : xIns xg 127 145 = some (.iinc 7 1) := by decide +kernel
theorem i127_148 : xIns xg 127 148 = some (.goto (-45)) := by decide +kernel
theorem i127_87 : xIns xg 127 87 = some (.istore 6) := by decide +kernel
theorem i127_89 : xIns xg 127 89 = some (.goto (-58)) := by decide +kernel
theorem i127_62 : xIns xg 127 62 = some (.l2i) := by decide +kernel
theorem i127_63 : xIns xg 127 63 = some (.iadd) := by decide +kernel
theorem i127_64 : xIns xg 127 64 = some (.invokevirtual 301) := by decide +kernel
theorem i127_67 : xIns xg 127 67 = some (.lload 4) := by decide +kernel
theorem i127_69 : xIns xg 127 69 = some (.ldc2_w 307) := by decide +kernel
theorem c127_307 : xCon xg 127 307 = some (vl (10)) := by decide +kernel
theorem i127_72 : xIns xg 127 72 = some (.ldiv) := by decide +kernel
theorem i127_73 : xIns xg 127 73 = some (.lstore 4) := by decide +kernel
theorem i127_75 : xIns xg 127 75 = some (.lload 4) := by decide +kernel
theorem i127_77 : xIns xg 127 77 = some (.lconst 0) := by decide +kernel
theorem i127_78 : xIns xg 127 78 = some (.lcmp) := by decide +kernel
theorem i127_79 : xIns xg 127 79 = some (.ifCond .eq 7) := by decide +kernel
theorem i127_86 : xIns xg 127 86 = some (.iconst 0) := by decide +kernel
theorem i127_82 : xIns xg 127 82 = some (.iconst 1) := by decide +kernel
theorem i127_83 : xIns xg 127 83 = some (.goto 4) := by decide +kernel
theorem i127_31 : xIns xg 127 31 = some (.iload 6) := by decide +kernel
theorem i127_33 : xIns xg 127 33 = some (.ifCond .eq 59) := by decide +kernel
theorem i127_92 : xIns xg 127 92 = some (.iload_n 3) := by decide +kernel
theorem i127_93 : xIns xg 127 93 = some (.istore 7) := by decide +kernel
theorem i127_95 : xIns xg 127 95 = some (.aload_n 0) := by decide +kernel
theorem i127_96 : xIns xg 127 96 = some (.getfield 298) := by decide +kernel
theorem i127_99 : xIns xg 127 99 = some (.iconst 1) := by decide +kernel
theorem i127_100 : xIns xg 127 100 = some (.isub) := by decide +kernel
theorem i127_101 : xIns xg 127 101 = some (.istore 8) := by decide +kernel
theorem i127_36 : xIns xg 127 36 = some (.lload 4) := by decide +kernel
theorem i127_38 : xIns xg 127 38 = some (.ldc2_w 307) := by decide +kernel
theorem i127_41 : xIns xg 127 41 = some (.lrem) := by decide +kernel
theorem i127_42 : xIns xg 127 42 = some (.lstore 7) := by decide +kernel
theorem i127_44 : xIns xg 127 44 = some (.aload_n 0) := by decide +kernel
theorem i127_45 : xIns xg 127 45 = some (.bipush 48) := by decide +kernel
theorem i127_47 : xIns xg 127 47 = some (.lload 7) := by decide +kernel
theorem i127_49 : xIns xg 127 49 = some (.lconst 0) := by decide +kernel
theorem i127_50 : xIns xg 127 50 = some (.lcmp) := by decide +kernel
theorem i127_51 : xIns xg 127 51 = some (.ifCond .ge 9) := by decide +kernel
theorem i127_60 : xIns xg 127 60 = some (.lload 7) := by decide +kernel
theorem i127_54 : xIns xg 127 54 = some (.lload 7) := by decide +kernel
theorem i127_56 : xIns xg 127 56 = some (.lneg) := by decide +kernel
theorem i127_57 : xIns xg 127 57 = some (.goto 5) := by decide +kernel
theorem i127_16 : xIns xg 127 16 = some (.aload_n 0) := by decide +kernel
theorem i127_17 : xIns xg 127 17 = some (.invokevirtual 304) := by decide +kernel
theorem i127_20 : xIns xg 127 20 = some (.aload_n 0) := by decide +kernel
theorem i127_21 : xIns xg 127 21 = some (.getfield 298) := by decide +kernel
theorem i127_24 : xIns xg 127 24 = some (.istore_n 3) := by decide +kernel
theorem i127_25 : xIns xg 127 25 = some (.lload_n 1) := by decide +kernel
theorem i127_26 : xIns xg 127 26 = some (.lstore 4) := by decide +kernel
theorem i127_28 : xIns xg 127 28 = some (.iconst 1) := by decide +kernel
theorem i127_29 : xIns xg 127 29 = some (.istore 6) := by decide +kernel
theorem i127_0 : xIns xg 127 0 = some (.lload_n 1) := by decide +kernel
theorem i127_1 : xIns xg 127 1 = some (.lconst 0) := by decide +kernel
theorem i127_2 : xIns xg 127 2 = some (.lcmp) := by decide +kernel
theorem i127_3 : xIns xg 127 3 = some (.ifCond .ge 13) := by decide +kernel
theorem i127_6 : xIns xg 127 6 = some (.aload_n 0) := by decide +kernel
theorem i127_7 : xIns xg 127 7 = some (.invokevirtual 304) := by decide +kernel
theorem i127_10 : xIns xg 127 10 = some (.aload_n 0) := by decide +kernel
theorem i127_11 : xIns xg 127 11 = some (.bipush 45) := by decide +kernel
theorem i127_13 : xIns xg 127 13 = some (.invokevirtual 301) := by decide +kernel
def d_x8_digits_103 (N : Nat)  (k103 : St → Int → Int → Option Rs) (s : St) (x7 : Int) (x8 : Int) : Option Rs :=
  (if (w32 x7) < (w32 x8) then if 0 ≤ (w32 x7) ∧ (w32 x7) < ((4096 : Nat) : Int) then bd (s 102 (Int.toNat (w32 x7))) fun v1 => if 0 ≤ (w32 x8) ∧ (w32 x8) < ((4096 : Nat) : Int) then if 0 ≤ (w32 x7) ∧ (w32 x7) < ((4096 : Nat) : Int) then bd (up s 102 (Int.toNat (w32 x7)) (s 102 (Int.toNat (w32 x8)))) fun s2 => if 0 ≤ (w32 x8) ∧ (w32 x8) < ((4096 : Nat) : Int) then bd (up s2 102 (Int.toNat (w32 x8)) v1) fun s3 => bd (x8 + (-1)) fun v4 => bd (x7 + 1) fun v5 => k103 s3 v5 v4 else none else none else none else none else some (s, 0))
def d_x8_digits_103L (N : Nat)  : Nat → St → Int → Int → Option Rs
  | 0 => fun _ _ _ => none
  | n + 1 => d_x8_digits_103 N  (d_x8_digits_103L N  n)
set_option maxHeartbeats 4000000 in
set_option maxRecDepth 100000 in
theorem c_x8_digits_103 {sc : xS} {d : Nat} {R : Rs} (N : Nat)  (hd : 2 ≤ d)   (k103 : St → Int → Int → Option Rs) (hk103 : ∀ (s : St) (x7 : Int) (x8 : Int), k103 s x7 x8 = some R → vT sc d 127 103 [(0, .ref 77), (7, vi x7), (8, vi x8)] [] s (fun r => r = qV R)) (s : St) (x7 : Int) (x8 : Int) : d_x8_digits_103 N  k103 s x7 x8 = some R → vT sc d 127 103 [(0, .ref 77), (7, vi x7), (8, vi x8)] [] s (fun r => r = qV R) := by
  obtain ⟨d, rfl⟩ : ∃ d', d = d' + 1 := ⟨d - 1, by omega⟩
  unfold d_x8_digits_103
  refine vLi 105 i127_103 rfl rfl ?_
  refine vLi 107 i127_105 rfl rfl ?_
  refine vCge 151 110 rfl rfl i127_107 rfl rfl ?_ ?_
  · exact vR0 i127_151 m127
  · refine vLan 111 i127_110 rfl rfl ?_
    refine vGetC 114 i127_111 f127_91 sh_77 rfl rfl ?_
    refine vLi 116 i127_114 rfl rfl ?_
    refine vIal 117 rfl i127_116 sh_102 rfl ?_
    refine vSi 119 (fun v1 => [(9, vi v1), (0, .ref 77), (7, vi x7), (8, vi x8)]) i127_117 m127 (by decide) (fun v1 => (rfl : xst1 [(0, .ref 77), (7, vi x7), (8, vi x8)] 9 (vi v1) = [(9, vi v1), (0, .ref 77), (7, vi x7), (8, vi x8)])) rfl (fun v1 => ?_)
    refine vLan 120 i127_119 rfl rfl ?_
    refine vGetC 123 i127_120 f127_91 sh_77 rfl rfl ?_
    refine vLi 125 i127_123 rfl rfl ?_
    refine vLan 126 i127_125 rfl rfl ?_
    refine vGetC 129 i127_126 f127_91 sh_77 rfl rfl ?_
    refine vLi 131 i127_129 rfl rfl ?_
    refine vIal 132 rfl i127_131 sh_102 rfl ?_
    refine vIas 133 rfl i127_132 sh_102 rfl (fun s2 => ?_)
    refine vLan 134 i127_133 rfl rfl ?_
    refine vGetC 137 i127_134 f127_91 sh_77 rfl rfl ?_
    refine vLi 139 i127_137 rfl rfl ?_
    refine vLi 141 i127_139 rfl rfl ?_
    refine vIas 142 rfl i127_141 sh_102 rfl (fun s3 => ?_)
    refine vInc 145 (fun v4 => [(8, vi v4), (9, vi v1), (0, .ref 77), (7, vi x7)]) i127_142 m127 (by decide) rfl (fun _ => rfl) rfl (fun v4 => ?_)
    refine vInc 148 (fun v5 => [(7, vi v5), (8, vi v4), (9, vi v1), (0, .ref 77)]) i127_145 m127 (by decide) rfl (fun _ => rfl) rfl (fun v5 => ?_)
    refine vGo 103 i127_148 rfl ?_
    exact fun hD => tLc [(0, .ref 77), (7, vi v5), (8, vi v4)] (xNdk [0, 7, 8] rfl (by decide)) (xNdk [7, 8, 9, 0] rfl (by decide)) ⟨rfl, rfl, rfl, trivial⟩ (hk103 s3 v5 v4 hD)
theorem c_x8_digits_103L {sc : xS} {d : Nat} {R : Rs} (N : Nat)  (hd : 2 ≤ d)   : ∀ (n : Nat) (s : St) (x7 : Int) (x8 : Int), d_x8_digits_103L N  n s x7 x8 = some R → vT sc d 127 103 [(0, .ref 77), (7, vi x7), (8, vi x8)] [] s (fun r => r = qV R) := by
  intro n
  induction n with
  | zero => intro s x7 x8 hD; cases hD
  | succ n ih => intro s x7 x8 hD; exact c_x8_digits_103 N  hd  _ ih s x7 x8 hD
def d_x8_digits_87 (N : Nat) (k31 : St → Int → Int → Int → Option Rs) (s : St) (x3 : Int) (x4 : Int) (z0 : Int) : Option Rs :=
  k31 s x3 x4 z0
set_option maxHeartbeats 4000000 in
set_option maxRecDepth 100000 in
theorem c_x8_digits_87 {sc : xS} {d : Nat} {R : Rs} (N : Nat)  (hd : 2 ≤ d) (k31 : St → Int → Int → Int → Option Rs) (hk31 : ∀ (s : St) (x3 : Int) (x4 : Int) (x6 : Int), k31 s x3 x4 x6 = some R → vT sc d 127 31 [(0, .ref 77), (3, vi x3), (4, vl x4), (6, vi x6)] [] s (fun r => r = qV R))  (s : St) (x3 : Int) (x4 : Int) (z0 : Int) : d_x8_digits_87 N k31 s x3 x4 z0 = some R → vT sc d 127 87 [(0, .ref 77), (3, vi x3), (4, vl x4)] [vi z0] s (fun r => r = qV R) := by
  obtain ⟨d, rfl⟩ : ∃ d', d = d' + 1 := ⟨d - 1, by omega⟩
  unfold d_x8_digits_87
  refine vSi0 89 [(6, vi z0), (0, .ref 77), (3, vi x3), (4, vl x4)] i127_87 m127 (by decide) rfl rfl ?_
  refine vGo 31 i127_89 rfl ?_
  exact fun hD => tLc [(0, .ref 77), (3, vi x3), (4, vl x4), (6, vi z0)] (xNdk [0, 3, 4, 6] rfl (by decide)) (xNdk [6, 0, 3, 4] rfl (by decide)) ⟨rfl, rfl, rfl, rfl, trivial⟩ (hk31 s x3 x4 z0 hD)
def d_x8_digits_62 (N : Nat) (k31 : St → Int → Int → Int → Option Rs) (s : St) (x3 : Int) (x4 : Int) (z0 : Int) (z1 : Int) : Option Rs :=
  bV (d_x8_puts N  s (z1 + z0)) fun s6 => if 10 = 0 then none else bd (Int.tdiv (w64 x4) 10) fun v8 => (if (w64 v8) = 0 then d_x8_digits_87 N k31 s6 x3 v8 0 else d_x8_digits_87 N k31 s6 x3 v8 1)
set_option maxHeartbeats 4000000 in
set_option maxRecDepth 100000 in
theorem c_x8_digits_62 {sc : xS} {d : Nat} {R : Rs} (N : Nat)  (hd : 2 ≤ d) (k31 : St → Int → Int → Int → Option Rs) (hk31 : ∀ (s : St) (x3 : Int) (x4 : Int) (x6 : Int), k31 s x3 x4 x6 = some R → vT sc d 127 31 [(0, .ref 77), (3, vi x3), (4, vl x4), (6, vi x6)] [] s (fun r => r = qV R))  (s : St) (x3 : Int) (x4 : Int) (z0 : Int) (z1 : Int) : d_x8_digits_62 N k31 s x3 x4 z0 z1 = some R → vT sc d 127 62 [(0, .ref 77), (3, vi x3), (4, vl x4)] [vl z0, vi z1, .ref 77] s (fun r => r = qV R) := by
  obtain ⟨d, rfl⟩ : ∃ d', d = d' + 1 := ⟨d - 1, by omega⟩
  unfold d_x8_digits_62
  refine vL2i 63 i127_62 rfl ?_
  refine vIadd 64 i127_63 rfl ?_
  refine vCallV 67 [.ref 77, vi (z1 + z0)] [] [(0, .ref 77), (1, vi (z1 + z0))] i127_64 rfl (xlk0 l127_301) (Or.inl rfl) m180 rfl rfl (Nat.le_of_ble_eq_true rfl) (Nat.le_of_ble_eq_true rfl) (Nat.le_of_ble_eq_true rfl) (xh0 sh_77 (by decide)) rfl rfl (fun R1 => c_x8_puts N   (by omega) s (z1 + z0)) (fun s6 => ?_)
  refine vLl 69 i127_67 rfl rfl ?_
  refine vKd 72 i127_69 c127_307 rfl ?_
  refine vLdiv 73 rfl (show w64 10 = 10 from rfl) i127_72 rfl ?_
  refine vSl 75 (fun v8 => [(4, vl v8), (0, .ref 77), (3, vi x3)]) i127_73 m127 (by decide) (fun v8 => (rfl : xst2 [(0, .ref 77), (3, vi x3), (4, vl x4)] 4 (vl v8) = [(4, vl v8), (0, .ref 77), (3, vi x3)])) rfl (fun v8 => ?_)
  refine vLl 77 i127_75 rfl rfl ?_
  refine vKl 78 0 i127_77 (by decide) rfl ?_
  refine vLceq 86 79 82 rfl (show w64 0 = 0 from rfl) i127_78 rfl i127_79 rfl rfl ?_ ?_
  · refine vK 87 i127_86 rfl ?_
    exact fun hD => tLc [(0, .ref 77), (3, vi x3), (4, vl v8)] (xNdk [0, 3, 4] rfl (by decide)) (xNdk [4, 0, 3] rfl (by decide)) ⟨rfl, rfl, rfl, trivial⟩ (c_x8_digits_87 N  hd k31 hk31 s6 x3 v8 0 hD)
  · refine vK 83 i127_82 rfl ?_
    refine vGo 87 i127_83 rfl ?_
    exact fun hD => tLc [(0, .ref 77), (3, vi x3), (4, vl v8)] (xNdk [0, 3, 4] rfl (by decide)) (xNdk [4, 0, 3] rfl (by decide)) ⟨rfl, rfl, rfl, trivial⟩ (c_x8_digits_87 N  hd k31 hk31 s6 x3 v8 1 hD)
def d_x8_digits_31 (N : Nat)  (k31 : St → Int → Int → Int → Option Rs) (s : St) (x3 : Int) (x4 : Int) (x6 : Int) : Option Rs :=
  (if (w32 x6) = 0 then bd ((s 77 35) - 1) fun v9 => d_x8_digits_103L N  N s x3 v9 else if 10 = 0 then none else bd (Int.tmod (w64 x4) 10) fun v10 => (if (w64 v10) < 0 then d_x8_digits_62 N k31 s x3 x4 (-v10) 48 else d_x8_digits_62 N k31 s x3 x4 v10 48))
def d_x8_digits_31L (N : Nat)  : Nat → St → Int → Int → Int → Option Rs
  | 0 => fun _ _ _ _ => none
  | n + 1 => d_x8_digits_31 N  (d_x8_digits_31L N  n)
set_option maxHeartbeats 4000000 in
set_option maxRecDepth 100000 in
theorem c_x8_digits_31 {sc : xS} {d : Nat} {R : Rs} (N : Nat)  (hd : 2 ≤ d)   (k31 : St → Int → Int → Int → Option Rs) (hk31 : ∀ (s : St) (x3 : Int) (x4 : Int) (x6 : Int), k31 s x3 x4 x6 = some R → vT sc d 127 31 [(0, .ref 77), (3, vi x3), (4, vl x4), (6, vi x6)] [] s (fun r => r = qV R)) (s : St) (x3 : Int) (x4 : Int) (x6 : Int) : d_x8_digits_31 N  k31 s x3 x4 x6 = some R → vT sc d 127 31 [(0, .ref 77), (3, vi x3), (4, vl x4), (6, vi x6)] [] s (fun r => r = qV R) := by
  obtain ⟨d, rfl⟩ : ∃ d', d = d' + 1 := ⟨d - 1, by omega⟩
  unfold d_x8_digits_31
  refine vLi 33 i127_31 rfl rfl ?_
  refine vZeq 92 36 rfl i127_33 rfl rfl ?_ ?_
  · refine vLin 93 i127_92 rfl rfl ?_
    refine vSi0 95 [(7, vi x3), (0, .ref 77), (3, vi x3), (4, vl x4), (6, vi x6)] i127_93 m127 (by decide) rfl rfl ?_
    refine vLan 96 i127_95 rfl rfl ?_
    refine vGet 99 i127_96 f127_298 sh_77 rfl rfl ?_
    refine vK 100 i127_99 rfl ?_
    refine vIsub 101 i127_100 rfl ?_
    refine vSi 103 (fun v9 => [(8, vi v9), (7, vi x3), (0, .ref 77), (3, vi x3), (4, vl x4), (6, vi x6)]) i127_101 m127 (by decide) (fun v9 => (rfl : xst1 [(7, vi x3), (0, .ref 77), (3, vi x3), (4, vl x4), (6, vi x6)] 8 (vi v9) = [(8, vi v9), (7, vi x3), (0, .ref 77), (3, vi x3), (4, vl x4), (6, vi x6)])) rfl (fun v9 => ?_)
    exact fun hD => tLc [(0, .ref 77), (7, vi x3), (8, vi v9)] (xNdk [0, 7, 8] rfl (by decide)) (xNdk [8, 7, 0, 3, 4, 6] rfl (by decide)) ⟨rfl, rfl, rfl, trivial⟩ (c_x8_digits_103L N  hd  N s x3 v9 hD)
  · refine vLl 38 i127_36 rfl rfl ?_
    refine vKd 41 i127_38 c127_307 rfl ?_
    refine vLrem 42 rfl (show w64 10 = 10 from rfl) i127_41 rfl ?_
    refine vSl 44 (fun v10 => [(7, vl v10), (0, .ref 77), (3, vi x3), (4, vl x4), (6, vi x6)]) i127_42 m127 (by decide) (fun v10 => (rfl : xst2 [(0, .ref 77), (3, vi x3), (4, vl x4), (6, vi x6)] 7 (vl v10) = [(7, vl v10), (0, .ref 77), (3, vi x3), (4, vl x4), (6, vi x6)])) rfl (fun v10 => ?_)
    refine vLan 45 i127_44 rfl rfl ?_
    refine vKb 47 i127_45 (by decide) rfl ?_
    refine vLl 49 i127_47 rfl rfl ?_
    refine vKl 50 0 i127_49 (by decide) rfl ?_
    refine vLcge 60 51 54 rfl (show w64 0 = 0 from rfl) i127_50 rfl i127_51 rfl rfl ?_ ?_
    · refine vLl 62 i127_60 rfl rfl ?_
      exact fun hD => tLc [(0, .ref 77), (3, vi x3), (4, vl x4)] (xNdk [0, 3, 4] rfl (by decide)) (xNdk [7, 0, 3, 4, 6] rfl (by decide)) ⟨rfl, rfl, rfl, trivial⟩ (c_x8_digits_62 N  hd k31 hk31 s x3 x4 v10 48 hD)
    · refine vLl 56 i127_54 rfl rfl ?_
      refine vLneg 57 i127_56 rfl ?_
      refine vGo 62 i127_57 rfl ?_
      exact fun hD => tLc [(0, .ref 77), (3, vi x3), (4, vl x4)] (xNdk [0, 3, 4] rfl (by decide)) (xNdk [7, 0, 3, 4, 6] rfl (by decide)) ⟨rfl, rfl, rfl, trivial⟩ (c_x8_digits_62 N  hd k31 hk31 s x3 x4 (-v10) 48 hD)
theorem c_x8_digits_31L {sc : xS} {d : Nat} {R : Rs} (N : Nat)  (hd : 2 ≤ d)   : ∀ (n : Nat) (s : St) (x3 : Int) (x4 : Int) (x6 : Int), d_x8_digits_31L N  n s x3 x4 x6 = some R → vT sc d 127 31 [(0, .ref 77), (3, vi x3), (4, vl x4), (6, vi x6)] [] s (fun r => r = qV R) := by
  intro n
  induction n with
  | zero => intro s x3 x4 x6 hD; cases hD
  | succ n ih => intro s x3 x4 x6 hD; exact c_x8_digits_31 N  hd  _ ih s x3 x4 x6 hD
def d_x8_digits_16 (N : Nat)  (s : St) (x1 : Int) : Option Rs :=
  bV (d_x8_gap N  s ) fun s11 => bd (s11 77 35) fun v13 => d_x8_digits_31L N  N s11 v13 x1 1
set_option maxHeartbeats 4000000 in
set_option maxRecDepth 100000 in
theorem c_x8_digits_16 {sc : xS} {d : Nat} {R : Rs} (N : Nat)  (hd : 2 ≤ d)   (s : St) (x1 : Int) : d_x8_digits_16 N  s x1 = some R → vT sc d 127 16 [(0, .ref 77), (1, vl x1)] [] s (fun r => r = qV R) := by
  obtain ⟨d, rfl⟩ : ∃ d', d = d' + 1 := ⟨d - 1, by omega⟩
  unfold d_x8_digits_16
  refine vLan 17 i127_16 rfl rfl ?_
  refine vCallV 20 [.ref 77] [] [(0, .ref 77)] i127_17 rfl (xlk0 l127_304) (Or.inl rfl) m137 rfl rfl (Nat.le_of_ble_eq_true rfl) (Nat.le_of_ble_eq_true rfl) (Nat.le_of_ble_eq_true rfl) (xh0 sh_77 (by decide)) rfl rfl (fun R1 => c_x8_gap N   (by omega) s ) (fun s11 => ?_)
  refine vLan 21 i127_20 rfl rfl ?_
  refine vGet 24 i127_21 f127_298 sh_77 rfl rfl ?_
  refine vSin 25 (fun v13 => [(3, vi v13), (0, .ref 77), (1, vl x1)]) i127_24 m127 (by decide) (fun v13 => (rfl : xst1 [(0, .ref 77), (1, vl x1)] 3 (vi v13) = [(3, vi v13), (0, .ref 77), (1, vl x1)])) rfl (fun v13 => ?_)
  refine vLln 26 i127_25 rfl rfl ?_
  refine vSl0 28 [(4, vl x1), (3, vi v13), (0, .ref 77), (1, vl x1)] i127_26 m127 (by decide) rfl rfl ?_
  refine vK 29 i127_28 rfl ?_
  refine vSi0 31 [(6, vi 1), (4, vl x1), (3, vi v13), (0, .ref 77), (1, vl x1)] i127_29 m127 (by decide) rfl rfl ?_
  exact fun hD => tLc [(0, .ref 77), (3, vi v13), (4, vl x1), (6, vi 1)] (xNdk [0, 3, 4, 6] rfl (by decide)) (xNdk [6, 4, 3, 0, 1] rfl (by decide)) ⟨rfl, rfl, rfl, rfl, trivial⟩ (c_x8_digits_31L N  hd  N s11 v13 x1 1 hD)
def d_x8_digits (N : Nat)  (s : St) (a0 : Int) : Option Rs :=
  (if (w64 a0) < 0 then bV (d_x8_gap N  s ) fun s14 => bV (d_x8_puts N  s14 45) fun s16 => d_x8_digits_16 N  s16 a0 else d_x8_digits_16 N  s a0)
set_option maxHeartbeats 4000000 in
set_option maxRecDepth 100000 in
theorem c_x8_digits {sc : xS} {d : Nat} {R : Rs} (N : Nat)  (hd : 2 ≤ d)   (s : St) (a0 : Int) : d_x8_digits N  s a0 = some R → vT sc d 127 0 [(0, .ref 77), (1, vl a0)] [] s (fun r => r = qV R) := by
  obtain ⟨d, rfl⟩ : ∃ d', d = d' + 1 := ⟨d - 1, by omega⟩
  unfold d_x8_digits
  refine vLln 1 i127_0 rfl rfl ?_
  refine vKl 2 0 i127_1 (by decide) rfl ?_
  refine vLcge 16 3 6 rfl (show w64 0 = 0 from rfl) i127_2 rfl i127_3 rfl rfl ?_ ?_
  · exact fun hD => c_x8_digits_16 N  hd  s a0 hD
  · refine vLan 7 i127_6 rfl rfl ?_
    refine vCallV 10 [.ref 77] [] [(0, .ref 77)] i127_7 rfl (xlk0 l127_304) (Or.inl rfl) m137 rfl rfl (Nat.le_of_ble_eq_true rfl) (Nat.le_of_ble_eq_true rfl) (Nat.le_of_ble_eq_true rfl) (xh0 sh_77 (by decide)) rfl rfl (fun R1 => c_x8_gap N   (by omega) s ) (fun s14 => ?_)
    refine vLan 11 i127_10 rfl rfl ?_
    refine vKb 13 i127_11 (by decide) rfl ?_
    refine vCallV 16 [.ref 77, vi 45] [] [(0, .ref 77), (1, vi 45)] i127_13 rfl (xlk0 l127_301) (Or.inl rfl) m180 rfl rfl (Nat.le_of_ble_eq_true rfl) (Nat.le_of_ble_eq_true rfl) (Nat.le_of_ble_eq_true rfl) (xh0 sh_77 (by decide)) rfl rfl (fun R1 => c_x8_puts N   (by omega) s14 45) (fun s16 => ?_)
    exact fun hD => c_x8_digits_16 N  hd  s16 a0 hD
theorem i196_38 : xIns xg 196 38 = some (.iload 5) := by decide +kernel
theorem i196_40 : xIns xg 196 40 = some (.ifCond .eq 9) := by decide +kernel
theorem i196_49 : xIns xg 196 49 = some (.return_) := by decide +kernel
theorem m196 : (xMet xg 196).2.2 = (6, none) := by decide +kernel
theorem i196_43 : xIns xg 196 43 = some (.aload_n 0) := by decide +kernel
theorem i196_44 : xIns xg 196 44 = some (.iload 5) := by decide +kernel
theorem i196_46 : xIns xg 196 46 = some (.invokevirtual 301) := by decide +kernel
theorem i196_27 : xIns xg 196 27 = some (.iload 4) := by decide +kernel
theorem i196_29 : xIns xg 196 29 = some (.ifCond .eq 9) := by decide +kernel
theorem i196_32 : xIns xg 196 32 = some (.aload_n 0) := by decide +kernel
theorem i196_33 : xIns xg 196 33 = some (.iload 4) := by decide +kernel
theorem i196_35 : xIns xg 196 35 = some (.invokevirtual 301) := by decide +kernel
theorem i196_18 : xIns xg 196 18 = some (.iload_n 3) := by decide +kernel
theorem i196_19 : xIns xg 196 19 = some (.ifCond .eq 8) := by decide +kernel
theorem i196_22 : xIns xg 196 22 = some (.aload_n 0) := by decide +kernel
theorem i196_23 : xIns xg 196 23 = some (.iload_n 3) := by decide +kernel
theorem i196_24 : xIns xg 196 24 = some (.invokevirtual 301) := by decide +kernel
theorem i196_0 : xIns xg 196 0 = some (.aload_n 0) := by decide +kernel
theorem i196_1 : xIns xg 196 1 = some (.invokevirtual 304) := by decide +kernel
theorem i196_4 : xIns xg 196 4 = some (.aload_n 0) := by decide +kernel
theorem i196_5 : xIns xg 196 5 = some (.iload_n 1) := by decide +kernel
theorem i196_6 : xIns xg 196 6 = some (.invokevirtual 301) := by decide +kernel
theorem i196_9 : xIns xg 196 9 = some (.iload_n 2) := by decide +kernel
theorem i196_10 : xIns xg 196 10 = some (.ifCond .eq 8) := by decide +kernel
theorem i196_13 : xIns xg 196 13 = some (.aload_n 0) := by decide +kernel
theorem i196_14 : xIns xg 196 14 = some (.iload_n 2) := by decide +kernel
theorem i196_15 : xIns xg 196 15 = some (.invokevirtual 301) := by decide +kernel
def d_x8_word_38 (N : Nat)  (s : St) (x5 : Int) : Option Rs :=
  (if (w32 x5) = 0 then some (s, 0) else bV (d_x8_puts N  s x5) fun s1 => some (s1, 0))
set_option maxHeartbeats 4000000 in
set_option maxRecDepth 100000 in
theorem c_x8_word_38 {sc : xS} {d : Nat} {R : Rs} (N : Nat)  (hd : 2 ≤ d)   (s : St) (x5 : Int) : d_x8_word_38 N  s x5 = some R → vT sc d 196 38 [(0, .ref 77), (5, vi x5)] [] s (fun r => r = qV R) := by
  obtain ⟨d, rfl⟩ : ∃ d', d = d' + 1 := ⟨d - 1, by omega⟩
  unfold d_x8_word_38
  refine vLi 40 i196_38 rfl rfl ?_
  refine vZeq 49 43 rfl i196_40 rfl rfl ?_ ?_
  · exact vR0 i196_49 m196
  · refine vLan 44 i196_43 rfl rfl ?_
    refine vLi 46 i196_44 rfl rfl ?_
    refine vCallV 49 [.ref 77, vi x5] [] [(0, .ref 77), (1, vi x5)] i196_46 rfl (xlk0 l196_301) (Or.inl rfl) m180 rfl rfl (Nat.le_of_ble_eq_true rfl) (Nat.le_of_ble_eq_true rfl) (Nat.le_of_ble_eq_true rfl) (xh0 sh_77 (by decide)) rfl rfl (fun R1 => c_x8_puts N   (by omega) s x5) (fun s1 => ?_)
    exact vR0 i196_49 m196
def d_x8_word_27 (N : Nat)  (s : St) (x4 : Int) (x5 : Int) : Option Rs :=
  (if (w32 x4) = 0 then d_x8_word_38 N  s x5 else bV (d_x8_puts N  s x4) fun s3 => d_x8_word_38 N  s3 x5)
set_option maxHeartbeats 4000000 in
set_option maxRecDepth 100000 in
theorem c_x8_word_27 {sc : xS} {d : Nat} {R : Rs} (N : Nat)  (hd : 2 ≤ d)   (s : St) (x4 : Int) (x5 : Int) : d_x8_word_27 N  s x4 x5 = some R → vT sc d 196 27 [(0, .ref 77), (4, vi x4), (5, vi x5)] [] s (fun r => r = qV R) := by
  obtain ⟨d, rfl⟩ : ∃ d', d = d' + 1 := ⟨d - 1, by omega⟩
  unfold d_x8_word_27
  refine vLi 29 i196_27 rfl rfl ?_
  refine vZeq 38 32 rfl i196_29 rfl rfl ?_ ?_
  · exact fun hD => tLc [(0, .ref 77), (5, vi x5)] (xNdk [0, 5] rfl (by decide)) (xNdk [0, 4, 5] rfl (by decide)) ⟨rfl, rfl, trivial⟩ (c_x8_word_38 N  hd  s x5 hD)
  · refine vLan 33 i196_32 rfl rfl ?_
    refine vLi 35 i196_33 rfl rfl ?_
    refine vCallV 38 [.ref 77, vi x4] [] [(0, .ref 77), (1, vi x4)] i196_35 rfl (xlk0 l196_301) (Or.inl rfl) m180 rfl rfl (Nat.le_of_ble_eq_true rfl) (Nat.le_of_ble_eq_true rfl) (Nat.le_of_ble_eq_true rfl) (xh0 sh_77 (by decide)) rfl rfl (fun R1 => c_x8_puts N   (by omega) s x4) (fun s3 => ?_)
    exact fun hD => tLc [(0, .ref 77), (5, vi x5)] (xNdk [0, 5] rfl (by decide)) (xNdk [0, 4, 5] rfl (by decide)) ⟨rfl, rfl, trivial⟩ (c_x8_word_38 N  hd  s3 x5 hD)
def d_x8_word_18 (N : Nat)  (s : St) (x3 : Int) (x4 : Int) (x5 : Int) : Option Rs :=
  (if (w32 x3) = 0 then d_x8_word_27 N  s x4 x5 else bV (d_x8_puts N  s x3) fun s5 => d_x8_word_27 N  s5 x4 x5)
set_option maxHeartbeats 4000000 in
set_option maxRecDepth 100000 in
theorem c_x8_word_18 {sc : xS} {d : Nat} {R : Rs} (N : Nat)  (hd : 2 ≤ d)   (s : St) (x3 : Int) (x4 : Int) (x5 : Int) : d_x8_word_18 N  s x3 x4 x5 = some R → vT sc d 196 18 [(0, .ref 77), (3, vi x3), (4, vi x4), (5, vi x5)] [] s (fun r => r = qV R) := by
  obtain ⟨d, rfl⟩ : ∃ d', d = d' + 1 := ⟨d - 1, by omega⟩
  unfold d_x8_word_18
  refine vLin 19 i196_18 rfl rfl ?_
  refine vZeq 27 22 rfl i196_19 rfl rfl ?_ ?_
  · exact fun hD => tLc [(0, .ref 77), (4, vi x4), (5, vi x5)] (xNdk [0, 4, 5] rfl (by decide)) (xNdk [0, 3, 4, 5] rfl (by decide)) ⟨rfl, rfl, rfl, trivial⟩ (c_x8_word_27 N  hd  s x4 x5 hD)
  · refine vLan 23 i196_22 rfl rfl ?_
    refine vLin 24 i196_23 rfl rfl ?_
    refine vCallV 27 [.ref 77, vi x3] [] [(0, .ref 77), (1, vi x3)] i196_24 rfl (xlk0 l196_301) (Or.inl rfl) m180 rfl rfl (Nat.le_of_ble_eq_true rfl) (Nat.le_of_ble_eq_true rfl) (Nat.le_of_ble_eq_true rfl) (xh0 sh_77 (by decide)) rfl rfl (fun R1 => c_x8_puts N   (by omega) s x3) (fun s5 => ?_)
    exact fun hD => tLc [(0, .ref 77), (4, vi x4), (5, vi x5)] (xNdk [0, 4, 5] rfl (by decide)) (xNdk [0, 3, 4, 5] rfl (by decide)) ⟨rfl, rfl, rfl, trivial⟩ (c_x8_word_27 N  hd  s5 x4 x5 hD)
def d_x8_word (N : Nat)  (s : St) (a0 : Int) (a1 : Int) (a2 : Int) (a3 : Int) (a4 : Int) : Option Rs :=
  bV (d_x8_gap N  s ) fun s7 => bV (d_x8_puts N  s7 a0) fun s9 => (if (w32 a1) = 0 then d_x8_word_18 N  s9 a2 a3 a4 else bV (d_x8_puts N  s9 a1) fun s11 => d_x8_word_18 N  s11 a2 a3 a4)
set_option maxHeartbeats 4000000 in
set_option maxRecDepth 100000 in
theorem c_x8_word {sc : xS} {d : Nat} {R : Rs} (N : Nat)  (hd : 2 ≤ d)   (s : St) (a0 : Int) (a1 : Int) (a2 : Int) (a3 : Int) (a4 : Int) : d_x8_word N  s a0 a1 a2 a3 a4 = some R → vT sc d 196 0 [(0, .ref 77), (1, vi a0), (2, vi a1), (3, vi a2), (4, vi a3), (5, vi a4)] [] s (fun r => r = qV R) := by
  obtain ⟨d, rfl⟩ : ∃ d', d = d' + 1 := ⟨d - 1, by omega⟩
  unfold d_x8_word
  refine vLan 1 i196_0 rfl rfl ?_
  refine vCallV 4 [.ref 77] [] [(0, .ref 77)] i196_1 rfl (xlk0 l196_304) (Or.inl rfl) m137 rfl rfl (Nat.le_of_ble_eq_true rfl) (Nat.le_of_ble_eq_true rfl) (Nat.le_of_ble_eq_true rfl) (xh0 sh_77 (by decide)) rfl rfl (fun R1 => c_x8_gap N   (by omega) s ) (fun s7 => ?_)
  refine vLan 5 i196_4 rfl rfl ?_
  refine vLin 6 i196_5 rfl rfl ?_
  refine vCallV 9 [.ref 77, vi a0] [] [(0, .ref 77), (1, vi a0)] i196_6 rfl (xlk0 l196_301) (Or.inl rfl) m180 rfl rfl (Nat.le_of_ble_eq_true rfl) (Nat.le_of_ble_eq_true rfl) (Nat.le_of_ble_eq_true rfl) (xh0 sh_77 (by decide)) rfl rfl (fun R1 => c_x8_puts N   (by omega) s7 a0) (fun s9 => ?_)
  refine vLin 10 i196_9 rfl rfl ?_
  refine vZeq 18 13 rfl i196_10 rfl rfl ?_ ?_
  · exact fun hD => tLc [(0, .ref 77), (3, vi a2), (4, vi a3), (5, vi a4)] (xNdk [0, 3, 4, 5] rfl (by decide)) (xNdk [0, 1, 2, 3, 4, 5] rfl (by decide)) ⟨rfl, rfl, rfl, rfl, trivial⟩ (c_x8_word_18 N  hd  s9 a2 a3 a4 hD)
  · refine vLan 14 i196_13 rfl rfl ?_
    refine vLin 15 i196_14 rfl rfl ?_
    refine vCallV 18 [.ref 77, vi a1] [] [(0, .ref 77), (1, vi a1)] i196_15 rfl (xlk0 l196_301) (Or.inl rfl) m180 rfl rfl (Nat.le_of_ble_eq_true rfl) (Nat.le_of_ble_eq_true rfl) (Nat.le_of_ble_eq_true rfl) (xh0 sh_77 (by decide)) rfl rfl (fun R1 => c_x8_puts N   (by omega) s9 a1) (fun s11 => ?_)
    exact fun hD => tLc [(0, .ref 77), (3, vi a2), (4, vi a3), (5, vi a4)] (xNdk [0, 3, 4, 5] rfl (by decide)) (xNdk [0, 1, 2, 3, 4, 5] rfl (by decide)) ⟨rfl, rfl, rfl, rfl, trivial⟩ (c_x8_word_18 N  hd  s11 a2 a3 a4 hD)
theorem f159_17 : xFld xg 159 17 = some (7, 2) := by decide +kernel
theorem f159_26 : xFld xg 159 26 = some (7, 5) := by decide +kernel
theorem i159_253 : xIns xg 159 253 = some (.iload_n 2) := by decide +kernel
theorem i159_254 : xIns xg 159 254 = some (.bipush 13) := by decide +kernel
theorem i159_256 : xIns xg 159 256 = some (.if_icmp .ne 15) := by decide +kernel
theorem i159_271 : xIns xg 159 271 = some (.return_) := by decide +kernel
theorem m159 : (xMet xg 159).2.2 = (3, none) := by decide +kernel
theorem i159_259 : xIns xg 159 259 = some (.aload_n 0) := by decide +kernel
theorem i159_260 : xIns xg 159 260 = some (.bipush 99) := by decide +kernel
theorem i159_262 : xIns xg 159 262 = some (.bipush 117) := by decide +kernel
theorem i159_264 : xIns xg 159 264 = some (.bipush 116) := by decide +kernel
theorem i159_266 : xIns xg 159 266 = some (.iconst 0) := by decide +kernel
theorem i159_267 : xIns xg 159 267 = some (.iconst 0) := by decide +kernel
theorem i159_268 : xIns xg 159 268 = some (.invokevirtual 309) := by decide +kernel
theorem i159_234 : xIns xg 159 234 = some (.iload_n 2) := by decide +kernel
theorem i159_235 : xIns xg 159 235 = some (.bipush 12) := by decide +kernel
theorem i159_237 : xIns xg 159 237 = some (.if_icmp .ne 16) := by decide +kernel
theorem i159_240 : xIns xg 159 240 = some (.aload_n 0) := by decide +kernel
theorem i159_241 : xIns xg 159 241 = some (.bipush 99) := by decide +kernel
theorem i159_243 : xIns xg 159 243 = some (.bipush 111) := by decide +kernel
theorem i159_245 : xIns xg 159 245 = some (.bipush 110) := by decide +kernel
theorem i159_247 : xIns xg 159 247 = some (.bipush 115) := by decide +kernel
theorem i159_249 : xIns xg 159 249 = some (.iconst 0) := by decide +kernel
theorem i159_250 : xIns xg 159 250 = some (.invokevirtual 309) := by decide +kernel
theorem i159_214 : xIns xg 159 214 = some (.iload_n 2) := by decide +kernel
theorem i159_215 : xIns xg 159 215 = some (.bipush 11) := by decide +kernel
theorem i159_217 : xIns xg 159 217 = some (.if_icmp .ne 17) := by decide +kernel
theorem i159_220 : xIns xg 159 220 = some (.aload_n 0) := by decide +kernel
theorem i159_221 : xIns xg 159 221 = some (.bipush 115) := by decide +kernel
theorem i159_223 : xIns xg 159 223 = some (.bipush 105) := by decide +kernel
theorem i159_225 : xIns xg 159 225 = some (.bipush 101) := by decide +kernel
theorem i159_227 : xIns xg 159 227 = some (.bipush 118) := by decide +kernel
theorem i159_229 : xIns xg 159 229 = some (.bipush 101) := by decide +kernel
theorem i159_231 : xIns xg 159 231 = some (.invokevirtual 309) := by decide +kernel
theorem i159_195 : xIns xg 159 195 = some (.iload_n 2) := by decide +kernel
theorem i159_196 : xIns xg 159 196 = some (.bipush 10) := by decide +kernel
theorem i159_198 : xIns xg 159 198 = some (.if_icmp .ne 16) := by decide +kernel
theorem i159_201 : xIns xg 159 201 = some (.aload_n 0) := by decide +kernel
theorem i159_202 : xIns xg 159 202 = some (.bipush 115) := by decide +kernel
theorem i159_204 : xIns xg 159 204 = some (.bipush 99) := by decide +kernel
theorem i159_206 : xIns xg 159 206 = some (.bipush 97) := by decide +kernel
theorem i159_208 : xIns xg 159 208 = some (.bipush 110) := by decide +kernel
theorem i159_210 : xIns xg 159 210 = some (.iconst 0) := by decide +kernel
theorem i159_211 : xIns xg 159 211 = some (.invokevirtual 309) := by decide +kernel
theorem i159_176 : xIns xg 159 176 = some (.iload_n 2) := by decide +kernel
theorem i159_177 : xIns xg 159 177 = some (.bipush 9) := by decide +kernel
theorem i159_179 : xIns xg 159 179 = some (.if_icmp .ne 16) := by decide +kernel
theorem i159_182 : xIns xg 159 182 = some (.aload_n 0) := by decide +kernel
theorem i159_183 : xIns xg 159 183 = some (.bipush 100) := by decide +kernel
theorem i159_185 : xIns xg 159 185 = some (.bipush 114) := by decide +kernel
theorem i159_187 : xIns xg 159 187 = some (.bipush 111) := by decide +kernel
theorem i159_189 : xIns xg 159 189 = some (.bipush 112) := by decide +kernel
theorem i159_191 : xIns xg 159 191 = some (.iconst 0) := by decide +kernel
theorem i159_192 : xIns xg 159 192 = some (.invokevirtual 309) := by decide +kernel
theorem i159_157 : xIns xg 159 157 = some (.iload_n 2) := by decide +kernel
theorem i159_158 : xIns xg 159 158 = some (.bipush 8) := by decide +kernel
theorem i159_160 : xIns xg 159 160 = some (.if_icmp .ne 16) := by decide +kernel
theorem i159_163 : xIns xg 159 163 = some (.aload_n 0) := by decide +kernel
theorem i159_164 : xIns xg 159 164 = some (.bipush 116) := by decide +kernel
theorem i159_166 : xIns xg 159 166 = some (.bipush 97) := by decide +kernel
theorem i159_168 : xIns xg 159 168 = some (.bipush 107) := by decide +kernel
theorem i159_170 : xIns xg 159 170 = some (.bipush 101) := by decide +kernel
theorem i159_172 : xIns xg 159 172 = some (.iconst 0) := by decide +kernel
theorem i159_173 : xIns xg 159 173 = some (.invokevirtual 309) := by decide +kernel
theorem i159_137 : xIns xg 159 137 = some (.iload_n 2) := by decide +kernel
theorem i159_138 : xIns xg 159 138 = some (.bipush 7) := by decide +kernel
theorem i159_140 : xIns xg 159 140 = some (.if_icmp .ne 17) := by decide +kernel
theorem i159_143 : xIns xg 159 143 = some (.aload_n 0) := by decide +kernel
theorem i159_144 : xIns xg 159 144 = some (.bipush 109) := by decide +kernel
theorem i159_146 : xIns xg 159 146 = some (.bipush 101) := by decide +kernel
theorem i159_148 : xIns xg 159 148 = some (.bipush 114) := by decide +kernel
theorem i159_150 : xIns xg 159 150 = some (.bipush 103) := by decide +kernel
theorem i159_152 : xIns xg 159 152 = some (.bipush 101) := by decide +kernel
theorem i159_154 : xIns xg 159 154 = some (.invokevirtual 309) := by decide +kernel
theorem i159_119 : xIns xg 159 119 = some (.iload_n 2) := by decide +kernel
theorem i159_120 : xIns xg 159 120 = some (.bipush 6) := by decide +kernel
theorem i159_122 : xIns xg 159 122 = some (.if_icmp .ne 15) := by decide +kernel
theorem i159_125 : xIns xg 159 125 = some (.aload_n 0) := by decide +kernel
theorem i159_126 : xIns xg 159 126 = some (.bipush 122) := by decide +kernel
theorem i159_128 : xIns xg 159 128 = some (.bipush 105) := by decide +kernel
theorem i159_130 : xIns xg 159 130 = some (.bipush 112) := by decide +kernel
theorem i159_132 : xIns xg 159 132 = some (.iconst 0) := by decide +kernel
theorem i159_133 : xIns xg 159 133 = some (.iconst 0) := by decide +kernel
theorem i159_134 : xIns xg 159 134 = some (.invokevirtual 309) := by decide +kernel
theorem i159_100 : xIns xg 159 100 = some (.iload_n 2) := by decide +kernel
theorem i159_101 : xIns xg 159 101 = some (.iconst 5) := by decide +kernel
theorem i159_102 : xIns xg 159 102 = some (.if_icmp .ne 17) := by decide +kernel
theorem i159_105 : xIns xg 159 105 = some (.aload_n 0) := by decide +kernel
theorem i159_106 : xIns xg 159 106 = some (.bipush 119) := by decide +kernel
theorem i159_108 : xIns xg 159 108 = some (.bipush 104) := by decide +kernel
theorem i159_110 : xIns xg 159 110 = some (.bipush 105) := by decide +kernel
theorem i159_112 : xIns xg 159 112 = some (.bipush 108) := by decide +kernel
theorem i159_114 : xIns xg 159 114 = some (.bipush 101) := by decide +kernel
theorem i159_116 : xIns xg 159 116 = some (.invokevirtual 309) := by decide +kernel
theorem i159_82 : xIns xg 159 82 = some (.iload_n 2) := by decide +kernel
theorem i159_83 : xIns xg 159 83 = some (.iconst 4) := by decide +kernel
theorem i159_84 : xIns xg 159 84 = some (.if_icmp .ne 16) := by decide +kernel
theorem i159_87 : xIns xg 159 87 = some (.aload_n 0) := by decide +kernel
theorem i159_88 : xIns xg 159 88 = some (.bipush 107) := by decide +kernel
theorem i159_90 : xIns xg 159 90 = some (.bipush 101) := by decide +kernel
theorem i159_92 : xIns xg 159 92 = some (.bipush 101) := by decide +kernel
theorem i159_94 : xIns xg 159 94 = some (.bipush 112) := by decide +kernel
theorem i159_96 : xIns xg 159 96 = some (.iconst 0) := by decide +kernel
theorem i159_97 : xIns xg 159 97 = some (.invokevirtual 309) := by decide +kernel
theorem i159_65 : xIns xg 159 65 = some (.iload_n 2) := by decide +kernel
theorem i159_66 : xIns xg 159 66 = some (.iconst 3) := by decide +kernel
theorem i159_67 : xIns xg 159 67 = some (.if_icmp .ne 15) := by decide +kernel
theorem i159_70 : xIns xg 159 70 = some (.aload_n 0) := by decide +kernel
theorem i159_71 : xIns xg 159 71 = some (.bipush 109) := by decide +kernel
theorem i159_73 : xIns xg 159 73 = some (.bipush 97) := by decide +kernel
theorem i159_75 : xIns xg 159 75 = some (.bipush 112) := by decide +kernel
theorem i159_77 : xIns xg 159 77 = some (.iconst 0) := by decide +kernel
theorem i159_78 : xIns xg 159 78 = some (.iconst 0) := by decide +kernel
theorem i159_79 : xIns xg 159 79 = some (.invokevirtual 309) := by decide +kernel
theorem i159_47 : xIns xg 159 47 = some (.iload_n 2) := by decide +kernel
theorem i159_48 : xIns xg 159 48 = some (.iconst 2) := by decide +kernel
theorem i159_49 : xIns xg 159 49 = some (.if_icmp .ne 16) := by decide +kernel
theorem i159_52 : xIns xg 159 52 = some (.aload_n 0) := by decide +kernel
theorem i159_53 : xIns xg 159 53 = some (.bipush 108) := by decide +kernel
theorem i159_55 : xIns xg 159 55 = some (.bipush 105) := by decide +kernel
theorem i159_57 : xIns xg 159 57 = some (.bipush 115) := by decide +kernel
theorem i159_59 : xIns xg 159 59 = some (.bipush 116) := by decide +kernel
theorem i159_61 : xIns xg 159 61 = some (.iconst 0) := by decide +kernel
theorem i159_62 : xIns xg 159 62 = some (.invokevirtual 309) := by decide +kernel
theorem i159_29 : xIns xg 159 29 = some (.iload_n 2) := by decide +kernel
theorem i159_30 : xIns xg 159 30 = some (.iconst 1) := by decide +kernel
theorem i159_31 : xIns xg 159 31 = some (.if_icmp .ne 16) := by decide +kernel
theorem i159_34 : xIns xg 159 34 = some (.aload_n 0) := by decide +kernel
theorem i159_35 : xIns xg 159 35 = some (.bipush 102) := by decide +kernel
theorem i159_37 : xIns xg 159 37 = some (.bipush 114) := by decide +kernel
theorem i159_39 : xIns xg 159 39 = some (.bipush 111) := by decide +kernel
theorem i159_41 : xIns xg 159 41 = some (.bipush 109) := by decide +kernel
theorem i159_43 : xIns xg 159 43 = some (.iconst 0) := by decide +kernel
theorem i159_44 : xIns xg 159 44 = some (.invokevirtual 309) := by decide +kernel
theorem i159_0 : xIns xg 159 0 = some (.aload_n 0) := by decide +kernel
theorem i159_1 : xIns xg 159 1 = some (.getfield 17) := by decide +kernel
theorem i159_4 : xIns xg 159 4 = some (.iload_n 1) := by decide +kernel
theorem i159_5 : xIns xg 159 5 = some (.iaload) := by decide +kernel
theorem i159_6 : xIns xg 159 6 = some (.istore_n 2) := by decide +kernel
theorem i159_7 : xIns xg 159 7 = some (.iload_n 2) := by decide +kernel
theorem i159_8 : xIns xg 159 8 = some (.ifCond .ne 21) := by decide +kernel
theorem i159_11 : xIns xg 159 11 = some (.aload_n 0) := by decide +kernel
theorem i159_12 : xIns xg 159 12 = some (.bipush 97) := by decide +kernel
theorem i159_14 : xIns xg 159 14 = some (.aload_n 0) := by decide +kernel
theorem i159_15 : xIns xg 159 15 = some (.getfield 26) := by decide +kernel
theorem i159_18 : xIns xg 159 18 = some (.iload_n 1) := by decide +kernel
theorem i159_19 : xIns xg 159 19 = some (.laload) := by decide +kernel
theorem i159_20 : xIns xg 159 20 = some (.l2i) := by decide +kernel
theorem i159_21 : xIns xg 159 21 = some (.iadd) := by decide +kernel
theorem i159_22 : xIns xg 159 22 = some (.iconst 0) := by decide +kernel
theorem i159_23 : xIns xg 159 23 = some (.iconst 0) := by decide +kernel
theorem i159_24 : xIns xg 159 24 = some (.iconst 0) := by decide +kernel
theorem i159_25 : xIns xg 159 25 = some (.iconst 0) := by decide +kernel
theorem i159_26 : xIns xg 159 26 = some (.invokevirtual 309) := by decide +kernel
def d_x8_kindWord_253 (N : Nat)  (s : St) (x2 : Int) : Option Rs :=
  (if (w32 x2) = 13 then bV (d_x8_word N  s 99 117 116 0 0) fun s1 => some (s1, 0) else some (s, 0))
set_option maxHeartbeats 4000000 in
set_option maxRecDepth 100000 in
theorem c_x8_kindWord_253 {sc : xS} {d : Nat} {R : Rs} (N : Nat)  (hd : 3 ≤ d)   (s : St) (x2 : Int) : d_x8_kindWord_253 N  s x2 = some R → vT sc d 159 253 [(0, .ref 77), (2, vi x2)] [] s (fun r => r = qV R) := by
  obtain ⟨d, rfl⟩ : ∃ d', d = d' + 1 := ⟨d - 1, by omega⟩
  unfold d_x8_kindWord_253
  refine vLin 254 i159_253 rfl rfl ?_
  refine vKb 256 i159_254 (by decide) rfl ?_
  refine vCne 271 259 rfl (show w32 13 = 13 from rfl) i159_256 rfl rfl ?_ ?_
  · exact vR0 i159_271 m159
  · refine vLan 260 i159_259 rfl rfl ?_
    refine vKb 262 i159_260 (by decide) rfl ?_
    refine vKb 264 i159_262 (by decide) rfl ?_
    refine vKb 266 i159_264 (by decide) rfl ?_
    refine vK 267 i159_266 rfl ?_
    refine vK 268 i159_267 rfl ?_
    refine vCallV 271 [.ref 77, vi 99, vi 117, vi 116, vi 0, vi 0] [] [(0, .ref 77), (1, vi 99), (2, vi 117), (3, vi 116), (4, vi 0), (5, vi 0)] i159_268 rfl (xlk0 l159_309) (Or.inl rfl) m196 rfl rfl (Nat.le_of_ble_eq_true rfl) (Nat.le_of_ble_eq_true rfl) (Nat.le_of_ble_eq_true rfl) (xh0 sh_77 (by decide)) rfl rfl (fun R1 => c_x8_word N   (by omega) s 99 117 116 0 0) (fun s1 => ?_)
    exact vR0 i159_271 m159
def d_x8_kindWord_234 (N : Nat)  (s : St) (x2 : Int) : Option Rs :=
  (if (w32 x2) = 12 then bV (d_x8_word N  s 99 111 110 115 0) fun s3 => d_x8_kindWord_253 N  s3 x2 else d_x8_kindWord_253 N  s x2)
set_option maxHeartbeats 4000000 in
set_option maxRecDepth 100000 in
theorem c_x8_kindWord_234 {sc : xS} {d : Nat} {R : Rs} (N : Nat)  (hd : 3 ≤ d)   (s : St) (x2 : Int) : d_x8_kindWord_234 N  s x2 = some R → vT sc d 159 234 [(0, .ref 77), (2, vi x2)] [] s (fun r => r = qV R) := by
  obtain ⟨d, rfl⟩ : ∃ d', d = d' + 1 := ⟨d - 1, by omega⟩
  unfold d_x8_kindWord_234
  refine vLin 235 i159_234 rfl rfl ?_
  refine vKb 237 i159_235 (by decide) rfl ?_
  refine vCne 253 240 rfl (show w32 12 = 12 from rfl) i159_237 rfl rfl ?_ ?_
  · exact fun hD => c_x8_kindWord_253 N  hd  s x2 hD
  · refine vLan 241 i159_240 rfl rfl ?_
    refine vKb 243 i159_241 (by decide) rfl ?_
    refine vKb 245 i159_243 (by decide) rfl ?_
    refine vKb 247 i159_245 (by decide) rfl ?_
    refine vKb 249 i159_247 (by decide) rfl ?_
    refine vK 250 i159_249 rfl ?_
    refine vCallV 253 [.ref 77, vi 99, vi 111, vi 110, vi 115, vi 0] [] [(0, .ref 77), (1, vi 99), (2, vi 111), (3, vi 110), (4, vi 115), (5, vi 0)] i159_250 rfl (xlk0 l159_309) (Or.inl rfl) m196 rfl rfl (Nat.le_of_ble_eq_true rfl) (Nat.le_of_ble_eq_true rfl) (Nat.le_of_ble_eq_true rfl) (xh0 sh_77 (by decide)) rfl rfl (fun R1 => c_x8_word N   (by omega) s 99 111 110 115 0) (fun s3 => ?_)
    exact fun hD => c_x8_kindWord_253 N  hd  s3 x2 hD
def d_x8_kindWord_214 (N : Nat)  (s : St) (x2 : Int) : Option Rs :=
  (if (w32 x2) = 11 then bV (d_x8_word N  s 115 105 101 118 101) fun s5 => d_x8_kindWord_234 N  s5 x2 else d_x8_kindWord_234 N  s x2)
set_option maxHeartbeats 4000000 in
set_option maxRecDepth 100000 in
theorem c_x8_kindWord_214 {sc : xS} {d : Nat} {R : Rs} (N : Nat)  (hd : 3 ≤ d)   (s : St) (x2 : Int) : d_x8_kindWord_214 N  s x2 = some R → vT sc d 159 214 [(0, .ref 77), (2, vi x2)] [] s (fun r => r = qV R) := by
  obtain ⟨d, rfl⟩ : ∃ d', d = d' + 1 := ⟨d - 1, by omega⟩
  unfold d_x8_kindWord_214
  refine vLin 215 i159_214 rfl rfl ?_
  refine vKb 217 i159_215 (by decide) rfl ?_
  refine vCne 234 220 rfl (show w32 11 = 11 from rfl) i159_217 rfl rfl ?_ ?_
  · exact fun hD => c_x8_kindWord_234 N  hd  s x2 hD
  · refine vLan 221 i159_220 rfl rfl ?_
    refine vKb 223 i159_221 (by decide) rfl ?_
    refine vKb 225 i159_223 (by decide) rfl ?_
    refine vKb 227 i159_225 (by decide) rfl ?_
    refine vKb 229 i159_227 (by decide) rfl ?_
    refine vKb 231 i159_229 (by decide) rfl ?_
    refine vCallV 234 [.ref 77, vi 115, vi 105, vi 101, vi 118, vi 101] [] [(0, .ref 77), (1, vi 115), (2, vi 105), (3, vi 101), (4, vi 118), (5, vi 101)] i159_231 rfl (xlk0 l159_309) (Or.inl rfl) m196 rfl rfl (Nat.le_of_ble_eq_true rfl) (Nat.le_of_ble_eq_true rfl) (Nat.le_of_ble_eq_true rfl) (xh0 sh_77 (by decide)) rfl rfl (fun R1 => c_x8_word N   (by omega) s 115 105 101 118 101) (fun s5 => ?_)
    exact fun hD => c_x8_kindWord_234 N  hd  s5 x2 hD
def d_x8_kindWord_195 (N : Nat)  (s : St) (x2 : Int) : Option Rs :=
  (if (w32 x2) = 10 then bV (d_x8_word N  s 115 99 97 110 0) fun s7 => d_x8_kindWord_214 N  s7 x2 else d_x8_kindWord_214 N  s x2)
set_option maxHeartbeats 4000000 in
set_option maxRecDepth 100000 in
theorem c_x8_kindWord_195 {sc : xS} {d : Nat} {R : Rs} (N : Nat)  (hd : 3 ≤ d)   (s : St) (x2 : Int) : d_x8_kindWord_195 N  s x2 = some R → vT sc d 159 195 [(0, .ref 77), (2, vi x2)] [] s (fun r => r = qV R) := by
  obtain ⟨d, rfl⟩ : ∃ d', d = d' + 1 := ⟨d - 1, by omega⟩
  unfold d_x8_kindWord_195
  refine vLin 196 i159_195 rfl rfl ?_
  refine vKb 198 i159_196 (by decide) rfl ?_
  refine vCne 214 201 rfl (show w32 10 = 10 from rfl) i159_198 rfl rfl ?_ ?_
  · exact fun hD => c_x8_kindWord_214 N  hd  s x2 hD
  · refine vLan 202 i159_201 rfl rfl ?_
    refine vKb 204 i159_202 (by decide) rfl ?_
    refine vKb 206 i159_204 (by decide) rfl ?_
    refine vKb 208 i159_206 (by decide) rfl ?_
    refine vKb 210 i159_208 (by decide) rfl ?_
    refine vK 211 i159_210 rfl ?_
    refine vCallV 214 [.ref 77, vi 115, vi 99, vi 97, vi 110, vi 0] [] [(0, .ref 77), (1, vi 115), (2, vi 99), (3, vi 97), (4, vi 110), (5, vi 0)] i159_211 rfl (xlk0 l159_309) (Or.inl rfl) m196 rfl rfl (Nat.le_of_ble_eq_true rfl) (Nat.le_of_ble_eq_true rfl) (Nat.le_of_ble_eq_true rfl) (xh0 sh_77 (by decide)) rfl rfl (fun R1 => c_x8_word N   (by omega) s 115 99 97 110 0) (fun s7 => ?_)
    exact fun hD => c_x8_kindWord_214 N  hd  s7 x2 hD
def d_x8_kindWord_176 (N : Nat)  (s : St) (x2 : Int) : Option Rs :=
  (if (w32 x2) = 9 then bV (d_x8_word N  s 100 114 111 112 0) fun s9 => d_x8_kindWord_195 N  s9 x2 else d_x8_kindWord_195 N  s x2)
set_option maxHeartbeats 4000000 in
set_option maxRecDepth 100000 in
theorem c_x8_kindWord_176 {sc : xS} {d : Nat} {R : Rs} (N : Nat)  (hd : 3 ≤ d)   (s : St) (x2 : Int) : d_x8_kindWord_176 N  s x2 = some R → vT sc d 159 176 [(0, .ref 77), (2, vi x2)] [] s (fun r => r = qV R) := by
  obtain ⟨d, rfl⟩ : ∃ d', d = d' + 1 := ⟨d - 1, by omega⟩
  unfold d_x8_kindWord_176
  refine vLin 177 i159_176 rfl rfl ?_
  refine vKb 179 i159_177 (by decide) rfl ?_
  refine vCne 195 182 rfl (show w32 9 = 9 from rfl) i159_179 rfl rfl ?_ ?_
  · exact fun hD => c_x8_kindWord_195 N  hd  s x2 hD
  · refine vLan 183 i159_182 rfl rfl ?_
    refine vKb 185 i159_183 (by decide) rfl ?_
    refine vKb 187 i159_185 (by decide) rfl ?_
    refine vKb 189 i159_187 (by decide) rfl ?_
    refine vKb 191 i159_189 (by decide) rfl ?_
    refine vK 192 i159_191 rfl ?_
    refine vCallV 195 [.ref 77, vi 100, vi 114, vi 111, vi 112, vi 0] [] [(0, .ref 77), (1, vi 100), (2, vi 114), (3, vi 111), (4, vi 112), (5, vi 0)] i159_192 rfl (xlk0 l159_309) (Or.inl rfl) m196 rfl rfl (Nat.le_of_ble_eq_true rfl) (Nat.le_of_ble_eq_true rfl) (Nat.le_of_ble_eq_true rfl) (xh0 sh_77 (by decide)) rfl rfl (fun R1 => c_x8_word N   (by omega) s 100 114 111 112 0) (fun s9 => ?_)
    exact fun hD => c_x8_kindWord_195 N  hd  s9 x2 hD
def d_x8_kindWord_157 (N : Nat)  (s : St) (x2 : Int) : Option Rs :=
  (if (w32 x2) = 8 then bV (d_x8_word N  s 116 97 107 101 0) fun s11 => d_x8_kindWord_176 N  s11 x2 else d_x8_kindWord_176 N  s x2)
set_option maxHeartbeats 4000000 in
set_option maxRecDepth 100000 in
theorem c_x8_kindWord_157 {sc : xS} {d : Nat} {R : Rs} (N : Nat)  (hd : 3 ≤ d)   (s : St) (x2 : Int) : d_x8_kindWord_157 N  s x2 = some R → vT sc d 159 157 [(0, .ref 77), (2, vi x2)] [] s (fun r => r = qV R) := by
  obtain ⟨d, rfl⟩ : ∃ d', d = d' + 1 := ⟨d - 1, by omega⟩
  unfold d_x8_kindWord_157
  refine vLin 158 i159_157 rfl rfl ?_
  refine vKb 160 i159_158 (by decide) rfl ?_
  refine vCne 176 163 rfl (show w32 8 = 8 from rfl) i159_160 rfl rfl ?_ ?_
  · exact fun hD => c_x8_kindWord_176 N  hd  s x2 hD
  · refine vLan 164 i159_163 rfl rfl ?_
    refine vKb 166 i159_164 (by decide) rfl ?_
    refine vKb 168 i159_166 (by decide) rfl ?_
    refine vKb 170 i159_168 (by decide) rfl ?_
    refine vKb 172 i159_170 (by decide) rfl ?_
    refine vK 173 i159_172 rfl ?_
    refine vCallV 176 [.ref 77, vi 116, vi 97, vi 107, vi 101, vi 0] [] [(0, .ref 77), (1, vi 116), (2, vi 97), (3, vi 107), (4, vi 101), (5, vi 0)] i159_173 rfl (xlk0 l159_309) (Or.inl rfl) m196 rfl rfl (Nat.le_of_ble_eq_true rfl) (Nat.le_of_ble_eq_true rfl) (Nat.le_of_ble_eq_true rfl) (xh0 sh_77 (by decide)) rfl rfl (fun R1 => c_x8_word N   (by omega) s 116 97 107 101 0) (fun s11 => ?_)
    exact fun hD => c_x8_kindWord_176 N  hd  s11 x2 hD
def d_x8_kindWord_137 (N : Nat)  (s : St) (x2 : Int) : Option Rs :=
  (if (w32 x2) = 7 then bV (d_x8_word N  s 109 101 114 103 101) fun s13 => d_x8_kindWord_157 N  s13 x2 else d_x8_kindWord_157 N  s x2)
set_option maxHeartbeats 4000000 in
set_option maxRecDepth 100000 in
theorem c_x8_kindWord_137 {sc : xS} {d : Nat} {R : Rs} (N : Nat)  (hd : 3 ≤ d)   (s : St) (x2 : Int) : d_x8_kindWord_137 N  s x2 = some R → vT sc d 159 137 [(0, .ref 77), (2, vi x2)] [] s (fun r => r = qV R) := by
  obtain ⟨d, rfl⟩ : ∃ d', d = d' + 1 := ⟨d - 1, by omega⟩
  unfold d_x8_kindWord_137
  refine vLin 138 i159_137 rfl rfl ?_
  refine vKb 140 i159_138 (by decide) rfl ?_
  refine vCne 157 143 rfl (show w32 7 = 7 from rfl) i159_140 rfl rfl ?_ ?_
  · exact fun hD => c_x8_kindWord_157 N  hd  s x2 hD
  · refine vLan 144 i159_143 rfl rfl ?_
    refine vKb 146 i159_144 (by decide) rfl ?_
    refine vKb 148 i159_146 (by decide) rfl ?_
    refine vKb 150 i159_148 (by decide) rfl ?_
    refine vKb 152 i159_150 (by decide) rfl ?_
    refine vKb 154 i159_152 (by decide) rfl ?_
    refine vCallV 157 [.ref 77, vi 109, vi 101, vi 114, vi 103, vi 101] [] [(0, .ref 77), (1, vi 109), (2, vi 101), (3, vi 114), (4, vi 103), (5, vi 101)] i159_154 rfl (xlk0 l159_309) (Or.inl rfl) m196 rfl rfl (Nat.le_of_ble_eq_true rfl) (Nat.le_of_ble_eq_true rfl) (Nat.le_of_ble_eq_true rfl) (xh0 sh_77 (by decide)) rfl rfl (fun R1 => c_x8_word N   (by omega) s 109 101 114 103 101) (fun s13 => ?_)
    exact fun hD => c_x8_kindWord_157 N  hd  s13 x2 hD
def d_x8_kindWord_119 (N : Nat)  (s : St) (x2 : Int) : Option Rs :=
  (if (w32 x2) = 6 then bV (d_x8_word N  s 122 105 112 0 0) fun s15 => d_x8_kindWord_137 N  s15 x2 else d_x8_kindWord_137 N  s x2)
set_option maxHeartbeats 4000000 in
set_option maxRecDepth 100000 in
theorem c_x8_kindWord_119 {sc : xS} {d : Nat} {R : Rs} (N : Nat)  (hd : 3 ≤ d)   (s : St) (x2 : Int) : d_x8_kindWord_119 N  s x2 = some R → vT sc d 159 119 [(0, .ref 77), (2, vi x2)] [] s (fun r => r = qV R) := by
  obtain ⟨d, rfl⟩ : ∃ d', d = d' + 1 := ⟨d - 1, by omega⟩
  unfold d_x8_kindWord_119
  refine vLin 120 i159_119 rfl rfl ?_
  refine vKb 122 i159_120 (by decide) rfl ?_
  refine vCne 137 125 rfl (show w32 6 = 6 from rfl) i159_122 rfl rfl ?_ ?_
  · exact fun hD => c_x8_kindWord_137 N  hd  s x2 hD
  · refine vLan 126 i159_125 rfl rfl ?_
    refine vKb 128 i159_126 (by decide) rfl ?_
    refine vKb 130 i159_128 (by decide) rfl ?_
    refine vKb 132 i159_130 (by decide) rfl ?_
    refine vK 133 i159_132 rfl ?_
    refine vK 134 i159_133 rfl ?_
    refine vCallV 137 [.ref 77, vi 122, vi 105, vi 112, vi 0, vi 0] [] [(0, .ref 77), (1, vi 122), (2, vi 105), (3, vi 112), (4, vi 0), (5, vi 0)] i159_134 rfl (xlk0 l159_309) (Or.inl rfl) m196 rfl rfl (Nat.le_of_ble_eq_true rfl) (Nat.le_of_ble_eq_true rfl) (Nat.le_of_ble_eq_true rfl) (xh0 sh_77 (by decide)) rfl rfl (fun R1 => c_x8_word N   (by omega) s 122 105 112 0 0) (fun s15 => ?_)
    exact fun hD => c_x8_kindWord_137 N  hd  s15 x2 hD
def d_x8_kindWord_100 (N : Nat)  (s : St) (x2 : Int) : Option Rs :=
  (if (w32 x2) = 5 then bV (d_x8_word N  s 119 104 105 108 101) fun s17 => d_x8_kindWord_119 N  s17 x2 else d_x8_kindWord_119 N  s x2)
set_option maxHeartbeats 4000000 in
set_option maxRecDepth 100000 in
theorem c_x8_kindWord_100 {sc : xS} {d : Nat} {R : Rs} (N : Nat)  (hd : 3 ≤ d)   (s : St) (x2 : Int) : d_x8_kindWord_100 N  s x2 = some R → vT sc d 159 100 [(0, .ref 77), (2, vi x2)] [] s (fun r => r = qV R) := by
  obtain ⟨d, rfl⟩ : ∃ d', d = d' + 1 := ⟨d - 1, by omega⟩
  unfold d_x8_kindWord_100
  refine vLin 101 i159_100 rfl rfl ?_
  refine vK 102 i159_101 rfl ?_
  refine vCne 119 105 rfl (show w32 5 = 5 from rfl) i159_102 rfl rfl ?_ ?_
  · exact fun hD => c_x8_kindWord_119 N  hd  s x2 hD
  · refine vLan 106 i159_105 rfl rfl ?_
    refine vKb 108 i159_106 (by decide) rfl ?_
    refine vKb 110 i159_108 (by decide) rfl ?_
    refine vKb 112 i159_110 (by decide) rfl ?_
    refine vKb 114 i159_112 (by decide) rfl ?_
    refine vKb 116 i159_114 (by decide) rfl ?_
    refine vCallV 119 [.ref 77, vi 119, vi 104, vi 105, vi 108, vi 101] [] [(0, .ref 77), (1, vi 119), (2, vi 104), (3, vi 105), (4, vi 108), (5, vi 101)] i159_116 rfl (xlk0 l159_309) (Or.inl rfl) m196 rfl rfl (Nat.le_of_ble_eq_true rfl) (Nat.le_of_ble_eq_true rfl) (Nat.le_of_ble_eq_true rfl) (xh0 sh_77 (by decide)) rfl rfl (fun R1 => c_x8_word N   (by omega) s 119 104 105 108 101) (fun s17 => ?_)
    exact fun hD => c_x8_kindWord_119 N  hd  s17 x2 hD
def d_x8_kindWord_82 (N : Nat)  (s : St) (x2 : Int) : Option Rs :=
  (if (w32 x2) = 4 then bV (d_x8_word N  s 107 101 101 112 0) fun s19 => d_x8_kindWord_100 N  s19 x2 else d_x8_kindWord_100 N  s x2)
set_option maxHeartbeats 4000000 in
set_option maxRecDepth 100000 in
theorem c_x8_kindWord_82 {sc : xS} {d : Nat} {R : Rs} (N : Nat)  (hd : 3 ≤ d)   (s : St) (x2 : Int) : d_x8_kindWord_82 N  s x2 = some R → vT sc d 159 82 [(0, .ref 77), (2, vi x2)] [] s (fun r => r = qV R) := by
  obtain ⟨d, rfl⟩ : ∃ d', d = d' + 1 := ⟨d - 1, by omega⟩
  unfold d_x8_kindWord_82
  refine vLin 83 i159_82 rfl rfl ?_
  refine vK 84 i159_83 rfl ?_
  refine vCne 100 87 rfl (show w32 4 = 4 from rfl) i159_84 rfl rfl ?_ ?_
  · exact fun hD => c_x8_kindWord_100 N  hd  s x2 hD
  · refine vLan 88 i159_87 rfl rfl ?_
    refine vKb 90 i159_88 (by decide) rfl ?_
    refine vKb 92 i159_90 (by decide) rfl ?_
    refine vKb 94 i159_92 (by decide) rfl ?_
    refine vKb 96 i159_94 (by decide) rfl ?_
    refine vK 97 i159_96 rfl ?_
    refine vCallV 100 [.ref 77, vi 107, vi 101, vi 101, vi 112, vi 0] [] [(0, .ref 77), (1, vi 107), (2, vi 101), (3, vi 101), (4, vi 112), (5, vi 0)] i159_97 rfl (xlk0 l159_309) (Or.inl rfl) m196 rfl rfl (Nat.le_of_ble_eq_true rfl) (Nat.le_of_ble_eq_true rfl) (Nat.le_of_ble_eq_true rfl) (xh0 sh_77 (by decide)) rfl rfl (fun R1 => c_x8_word N   (by omega) s 107 101 101 112 0) (fun s19 => ?_)
    exact fun hD => c_x8_kindWord_100 N  hd  s19 x2 hD
def d_x8_kindWord_65 (N : Nat)  (s : St) (x2 : Int) : Option Rs :=
  (if (w32 x2) = 3 then bV (d_x8_word N  s 109 97 112 0 0) fun s21 => d_x8_kindWord_82 N  s21 x2 else d_x8_kindWord_82 N  s x2)
set_option maxHeartbeats 4000000 in
set_option maxRecDepth 100000 in
theorem c_x8_kindWord_65 {sc : xS} {d : Nat} {R : Rs} (N : Nat)  (hd : 3 ≤ d)   (s : St) (x2 : Int) : d_x8_kindWord_65 N  s x2 = some R → vT sc d 159 65 [(0, .ref 77), (2, vi x2)] [] s (fun r => r = qV R) := by
  obtain ⟨d, rfl⟩ : ∃ d', d = d' + 1 := ⟨d - 1, by omega⟩
  unfold d_x8_kindWord_65
  refine vLin 66 i159_65 rfl rfl ?_
  refine vK 67 i159_66 rfl ?_
  refine vCne 82 70 rfl (show w32 3 = 3 from rfl) i159_67 rfl rfl ?_ ?_
  · exact fun hD => c_x8_kindWord_82 N  hd  s x2 hD
  · refine vLan 71 i159_70 rfl rfl ?_
    refine vKb 73 i159_71 (by decide) rfl ?_
    refine vKb 75 i159_73 (by decide) rfl ?_
    refine vKb 77 i159_75 (by decide) rfl ?_
    refine vK 78 i159_77 rfl ?_
    refine vK 79 i159_78 rfl ?_
    refine vCallV 82 [.ref 77, vi 109, vi 97, vi 112, vi 0, vi 0] [] [(0, .ref 77), (1, vi 109), (2, vi 97), (3, vi 112), (4, vi 0), (5, vi 0)] i159_79 rfl (xlk0 l159_309) (Or.inl rfl) m196 rfl rfl (Nat.le_of_ble_eq_true rfl) (Nat.le_of_ble_eq_true rfl) (Nat.le_of_ble_eq_true rfl) (xh0 sh_77 (by decide)) rfl rfl (fun R1 => c_x8_word N   (by omega) s 109 97 112 0 0) (fun s21 => ?_)
    exact fun hD => c_x8_kindWord_82 N  hd  s21 x2 hD
def d_x8_kindWord_47 (N : Nat)  (s : St) (x2 : Int) : Option Rs :=
  (if (w32 x2) = 2 then bV (d_x8_word N  s 108 105 115 116 0) fun s23 => d_x8_kindWord_65 N  s23 x2 else d_x8_kindWord_65 N  s x2)
set_option maxHeartbeats 4000000 in
set_option maxRecDepth 100000 in
theorem c_x8_kindWord_47 {sc : xS} {d : Nat} {R : Rs} (N : Nat)  (hd : 3 ≤ d)   (s : St) (x2 : Int) : d_x8_kindWord_47 N  s x2 = some R → vT sc d 159 47 [(0, .ref 77), (2, vi x2)] [] s (fun r => r = qV R) := by
  obtain ⟨d, rfl⟩ : ∃ d', d = d' + 1 := ⟨d - 1, by omega⟩
  unfold d_x8_kindWord_47
  refine vLin 48 i159_47 rfl rfl ?_
  refine vK 49 i159_48 rfl ?_
  refine vCne 65 52 rfl (show w32 2 = 2 from rfl) i159_49 rfl rfl ?_ ?_
  · exact fun hD => c_x8_kindWord_65 N  hd  s x2 hD
  · refine vLan 53 i159_52 rfl rfl ?_
    refine vKb 55 i159_53 (by decide) rfl ?_
    refine vKb 57 i159_55 (by decide) rfl ?_
    refine vKb 59 i159_57 (by decide) rfl ?_
    refine vKb 61 i159_59 (by decide) rfl ?_
    refine vK 62 i159_61 rfl ?_
    refine vCallV 65 [.ref 77, vi 108, vi 105, vi 115, vi 116, vi 0] [] [(0, .ref 77), (1, vi 108), (2, vi 105), (3, vi 115), (4, vi 116), (5, vi 0)] i159_62 rfl (xlk0 l159_309) (Or.inl rfl) m196 rfl rfl (Nat.le_of_ble_eq_true rfl) (Nat.le_of_ble_eq_true rfl) (Nat.le_of_ble_eq_true rfl) (xh0 sh_77 (by decide)) rfl rfl (fun R1 => c_x8_word N   (by omega) s 108 105 115 116 0) (fun s23 => ?_)
    exact fun hD => c_x8_kindWord_65 N  hd  s23 x2 hD
def d_x8_kindWord_29 (N : Nat)  (s : St) (x2 : Int) : Option Rs :=
  (if (w32 x2) = 1 then bV (d_x8_word N  s 102 114 111 109 0) fun s25 => d_x8_kindWord_47 N  s25 x2 else d_x8_kindWord_47 N  s x2)
set_option maxHeartbeats 4000000 in
set_option maxRecDepth 100000 in
theorem c_x8_kindWord_29 {sc : xS} {d : Nat} {R : Rs} (N : Nat)  (hd : 3 ≤ d)   (s : St) (x2 : Int) : d_x8_kindWord_29 N  s x2 = some R → vT sc d 159 29 [(0, .ref 77), (2, vi x2)] [] s (fun r => r = qV R) := by
  obtain ⟨d, rfl⟩ : ∃ d', d = d' + 1 := ⟨d - 1, by omega⟩
  unfold d_x8_kindWord_29
  refine vLin 30 i159_29 rfl rfl ?_
  refine vK 31 i159_30 rfl ?_
  refine vCne 47 34 rfl (show w32 1 = 1 from rfl) i159_31 rfl rfl ?_ ?_
  · exact fun hD => c_x8_kindWord_47 N  hd  s x2 hD
  · refine vLan 35 i159_34 rfl rfl ?_
    refine vKb 37 i159_35 (by decide) rfl ?_
    refine vKb 39 i159_37 (by decide) rfl ?_
    refine vKb 41 i159_39 (by decide) rfl ?_
    refine vKb 43 i159_41 (by decide) rfl ?_
    refine vK 44 i159_43 rfl ?_
    refine vCallV 47 [.ref 77, vi 102, vi 114, vi 111, vi 109, vi 0] [] [(0, .ref 77), (1, vi 102), (2, vi 114), (3, vi 111), (4, vi 109), (5, vi 0)] i159_44 rfl (xlk0 l159_309) (Or.inl rfl) m196 rfl rfl (Nat.le_of_ble_eq_true rfl) (Nat.le_of_ble_eq_true rfl) (Nat.le_of_ble_eq_true rfl) (xh0 sh_77 (by decide)) rfl rfl (fun R1 => c_x8_word N   (by omega) s 102 114 111 109 0) (fun s25 => ?_)
    exact fun hD => c_x8_kindWord_47 N  hd  s25 x2 hD
def d_x8_kindWord (N : Nat)  (s : St) (a0 : Int) : Option Rs :=
  if 0 ≤ (w32 a0) ∧ (w32 a0) < ((192 : Nat) : Int) then bd (s 79 (Int.toNat (w32 a0))) fun v27 => (if (w32 v27) = 0 then if 0 ≤ (w32 a0) ∧ (w32 a0) < ((192 : Nat) : Int) then bV (d_x8_word N  s (97 + (s 82 (Int.toNat (w32 a0)))) 0 0 0 0) fun s28 => d_x8_kindWord_29 N  s28 v27 else none else d_x8_kindWord_29 N  s v27) else none
set_option maxHeartbeats 4000000 in
set_option maxRecDepth 100000 in
theorem c_x8_kindWord {sc : xS} {d : Nat} {R : Rs} (N : Nat)  (hd : 3 ≤ d)   (s : St) (a0 : Int) : d_x8_kindWord N  s a0 = some R → vT sc d 159 0 [(0, .ref 77), (1, vi a0)] [] s (fun r => r = qV R) := by
  obtain ⟨d, rfl⟩ : ∃ d', d = d' + 1 := ⟨d - 1, by omega⟩
  unfold d_x8_kindWord
  refine vLan 1 i159_0 rfl rfl ?_
  refine vGetC 4 i159_1 f159_17 sh_77 rfl rfl ?_
  refine vLin 5 i159_4 rfl rfl ?_
  refine vIal 6 rfl i159_5 sh_79 rfl ?_
  refine vSin 7 (fun v27 => [(2, vi v27), (0, .ref 77), (1, vi a0)]) i159_6 m159 (by decide) (fun v27 => (rfl : xst1 [(0, .ref 77), (1, vi a0)] 2 (vi v27) = [(2, vi v27), (0, .ref 77), (1, vi a0)])) rfl (fun v27 => ?_)
  refine vLin 8 i159_7 rfl rfl ?_
  refine vZne 29 11 rfl i159_8 rfl rfl ?_ ?_
  · exact fun hD => tLc [(0, .ref 77), (2, vi v27)] (xNdk [0, 2] rfl (by decide)) (xNdk [2, 0, 1] rfl (by decide)) ⟨rfl, rfl, trivial⟩ (c_x8_kindWord_29 N  hd  s v27 hD)
  · refine vLan 12 i159_11 rfl rfl ?_
    refine vKb 14 i159_12 (by decide) rfl ?_
    refine vLan 15 i159_14 rfl rfl ?_
    refine vGetC 18 i159_15 f159_26 sh_77 rfl rfl ?_
    refine vLin 19 i159_18 rfl rfl ?_
    refine vLal 20 rfl i159_19 sh_82 rfl ?_
    refine vL2i 21 i159_20 rfl ?_
    refine vIadd 22 i159_21 rfl ?_
    refine vK 23 i159_22 rfl ?_
    refine vK 24 i159_23 rfl ?_
    refine vK 25 i159_24 rfl ?_
    refine vK 26 i159_25 rfl ?_
    refine vCallV 29 [.ref 77, vi (97 + (s 82 (Int.toNat (w32 a0)))), vi 0, vi 0, vi 0, vi 0] [] [(0, .ref 77), (1, vi (97 + (s 82 (Int.toNat (w32 a0))))), (2, vi 0), (3, vi 0), (4, vi 0), (5, vi 0)] i159_26 rfl (xlk0 l159_309) (Or.inl rfl) m196 rfl rfl (Nat.le_of_ble_eq_true rfl) (Nat.le_of_ble_eq_true rfl) (Nat.le_of_ble_eq_true rfl) (xh0 sh_77 (by decide)) rfl rfl (fun R1 => c_x8_word N   (by omega) s (97 + (s 82 (Int.toNat (w32 a0)))) 0 0 0 0) (fun s28 => ?_)
    exact fun hD => tLc [(0, .ref 77), (2, vi v27)] (xNdk [0, 2] rfl (by decide)) (xNdk [2, 0, 1] rfl (by decide)) ⟨rfl, rfl, trivial⟩ (c_x8_kindWord_29 N  hd  s28 v27 hD)
