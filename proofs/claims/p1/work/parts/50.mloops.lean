theorem i195_46 : xIns xg 195 46 = some (.iload_n 2) := by decide +kernel
theorem i195_47 : xIns xg 195 47 = some (.bipush 64) := by decide +kernel
theorem i195_49 : xIns xg 195 49 = some (.if_icmp .ge 21) := by decide +kernel
theorem i195_52 : xIns xg 195 52 = some (.aload_n 0) := by decide +kernel
theorem i195_53 : xIns xg 195 53 = some (.getfield 58) := by decide +kernel
theorem f195_58 : xFld xg 195 58 = some (7, 15) := by decide +kernel
theorem i195_56 : xIns xg 195 56 = some (.bipush 64) := by decide +kernel
theorem i195_58 : xIns xg 195 58 = some (.iload_n 1) := by decide +kernel
theorem i195_59 : xIns xg 195 59 = some (.imul) := by decide +kernel
theorem i195_60 : xIns xg 195 60 = some (.iload_n 2) := by decide +kernel
theorem i195_61 : xIns xg 195 61 = some (.iadd) := by decide +kernel
theorem i195_62 : xIns xg 195 62 = some (.iconst 0) := by decide +kernel
theorem i195_63 : xIns xg 195 63 = some (.iastore) := by decide +kernel
theorem i195_64 : xIns xg 195 64 = some (.iinc 2 1) := by decide +kernel
theorem m195 : (xMet xg 195).2.2 = (3, none) := by decide +kernel
theorem i195_67 : xIns xg 195 67 = some (.goto (-21)) := by decide +kernel
theorem i195_2 : xIns xg 195 2 = some (.iload_n 1) := by decide +kernel
theorem i195_3 : xIns xg 195 3 = some (.sipush 192) := by decide +kernel
theorem i195_6 : xIns xg 195 6 = some (.if_icmp .ge 70) := by decide +kernel
theorem i195_9 : xIns xg 195 9 = some (.aload_n 0) := by decide +kernel
theorem i195_10 : xIns xg 195 10 = some (.getfield 42) := by decide +kernel
theorem f195_42 : xFld xg 195 42 = some (7, 10) := by decide +kernel
theorem i195_13 : xIns xg 195 13 = some (.iload_n 1) := by decide +kernel
theorem i195_14 : xIns xg 195 14 = some (.iconst 0) := by decide +kernel
theorem i195_15 : xIns xg 195 15 = some (.iastore) := by decide +kernel
theorem i195_16 : xIns xg 195 16 = some (.aload_n 0) := by decide +kernel
theorem i195_17 : xIns xg 195 17 = some (.getfield 45) := by decide +kernel
theorem f195_45 : xFld xg 195 45 = some (7, 11) := by decide +kernel
theorem i195_20 : xIns xg 195 20 = some (.iload_n 1) := by decide +kernel
theorem i195_21 : xIns xg 195 21 = some (.iconst 0) := by decide +kernel
theorem i195_22 : xIns xg 195 22 = some (.iastore) := by decide +kernel
theorem i195_23 : xIns xg 195 23 = some (.aload_n 0) := by decide +kernel
theorem i195_24 : xIns xg 195 24 = some (.getfield 48) := by decide +kernel
theorem f195_48 : xFld xg 195 48 = some (7, 12) := by decide +kernel
theorem i195_27 : xIns xg 195 27 = some (.iload_n 1) := by decide +kernel
theorem i195_28 : xIns xg 195 28 = some (.iconst 0) := by decide +kernel
theorem i195_29 : xIns xg 195 29 = some (.bastore) := by decide +kernel
theorem i195_30 : xIns xg 195 30 = some (.aload_n 0) := by decide +kernel
theorem i195_31 : xIns xg 195 31 = some (.getfield 52) := by decide +kernel
theorem f195_52 : xFld xg 195 52 = some (7, 13) := by decide +kernel
theorem i195_34 : xIns xg 195 34 = some (.iload_n 1) := by decide +kernel
theorem i195_35 : xIns xg 195 35 = some (.iconst 0) := by decide +kernel
theorem i195_36 : xIns xg 195 36 = some (.iastore) := by decide +kernel
theorem i195_37 : xIns xg 195 37 = some (.aload_n 0) := by decide +kernel
theorem i195_38 : xIns xg 195 38 = some (.getfield 55) := by decide +kernel
theorem f195_55 : xFld xg 195 55 = some (7, 14) := by decide +kernel
theorem i195_41 : xIns xg 195 41 = some (.iload_n 1) := by decide +kernel
theorem i195_42 : xIns xg 195 42 = some (.iconst 0) := by decide +kernel
theorem i195_43 : xIns xg 195 43 = some (.iastore) := by decide +kernel
theorem i195_44 : xIns xg 195 44 = some (.iconst 0) := by decide +kernel
theorem i195_45 : xIns xg 195 45 = some (.istore_n 2) := by decide +kernel
theorem i195_70 : xIns xg 195 70 = some (.iinc 1 1) := by decide +kernel
theorem i195_73 : xIns xg 195 73 = some (.goto (-71)) := by decide +kernel
theorem i195_0 : xIns xg 195 0 = some (.iconst 0) := by decide +kernel
theorem i195_1 : xIns xg 195 1 = some (.istore_n 1) := by decide +kernel
theorem i195_76 : xIns xg 195 76 = some (.return_) := by decide +kernel
theorem i141_2 : xIns xg 141 2 = some (.iload_n 1) := by decide +kernel
theorem i141_3 : xIns xg 141 3 = some (.bipush 8) := by decide +kernel
theorem i141_5 : xIns xg 141 5 = some (.if_icmp .ge 21) := by decide +kernel
theorem i141_8 : xIns xg 141 8 = some (.aload_n 0) := by decide +kernel
theorem i141_9 : xIns xg 141 9 = some (.getfield 118) := by decide +kernel
theorem f141_118 : xFld xg 141 118 = some (7, 48) := by decide +kernel
theorem i141_12 : xIns xg 141 12 = some (.iload_n 1) := by decide +kernel
theorem i141_13 : xIns xg 141 13 = some (.aload_n 0) := by decide +kernel
theorem i141_14 : xIns xg 141 14 = some (.getfield 13) := by decide +kernel
theorem f141_13 : xFld xg 141 13 = some (7, 1) := by decide +kernel
theorem i141_17 : xIns xg 141 17 = some (.iload_n 1) := by decide +kernel
theorem i141_18 : xIns xg 141 18 = some (.iaload) := by decide +kernel
theorem i141_19 : xIns xg 141 19 = some (.iastore) := by decide +kernel
theorem i141_20 : xIns xg 141 20 = some (.iinc 1 1) := by decide +kernel
theorem m141 : (xMet xg 141).2.2 = (2, (some .int)) := by decide +kernel
theorem i141_23 : xIns xg 141 23 = some (.goto (-21)) := by decide +kernel
theorem i141_28 : xIns xg 141 28 = some (.iload_n 1) := by decide +kernel
theorem i141_29 : xIns xg 141 29 = some (.sipush 192) := by decide +kernel
theorem i141_32 : xIns xg 141 32 = some (.if_icmp .ge 129) := by decide +kernel
theorem i141_35 : xIns xg 141 35 = some (.aload_n 0) := by decide +kernel
theorem i141_36 : xIns xg 141 36 = some (.getfield 121) := by decide +kernel
theorem f141_121 : xFld xg 141 121 = some (7, 49) := by decide +kernel
theorem i141_39 : xIns xg 141 39 = some (.iload_n 1) := by decide +kernel
theorem i141_40 : xIns xg 141 40 = some (.aload_n 0) := by decide +kernel
theorem i141_41 : xIns xg 141 41 = some (.getfield 17) := by decide +kernel
theorem f141_17 : xFld xg 141 17 = some (7, 2) := by decide +kernel
theorem i141_44 : xIns xg 141 44 = some (.iload_n 1) := by decide +kernel
theorem i141_45 : xIns xg 141 45 = some (.iaload) := by decide +kernel
theorem i141_46 : xIns xg 141 46 = some (.iastore) := by decide +kernel
theorem i141_47 : xIns xg 141 47 = some (.aload_n 0) := by decide +kernel
theorem i141_48 : xIns xg 141 48 = some (.getfield 124) := by decide +kernel
theorem f141_124 : xFld xg 141 124 = some (7, 50) := by decide +kernel
theorem i141_51 : xIns xg 141 51 = some (.iload_n 1) := by decide +kernel
theorem i141_52 : xIns xg 141 52 = some (.aload_n 0) := by decide +kernel
theorem i141_53 : xIns xg 141 53 = some (.getfield 20) := by decide +kernel
theorem f141_20 : xFld xg 141 20 = some (7, 3) := by decide +kernel
theorem i141_56 : xIns xg 141 56 = some (.iload_n 1) := by decide +kernel
theorem i141_57 : xIns xg 141 57 = some (.iaload) := by decide +kernel
theorem i141_58 : xIns xg 141 58 = some (.iastore) := by decide +kernel
theorem i141_59 : xIns xg 141 59 = some (.aload_n 0) := by decide +kernel
theorem i141_60 : xIns xg 141 60 = some (.getfield 127) := by decide +kernel
theorem f141_127 : xFld xg 141 127 = some (7, 51) := by decide +kernel
theorem i141_63 : xIns xg 141 63 = some (.iload_n 1) := by decide +kernel
theorem i141_64 : xIns xg 141 64 = some (.aload_n 0) := by decide +kernel
theorem i141_65 : xIns xg 141 65 = some (.getfield 23) := by decide +kernel
theorem f141_23 : xFld xg 141 23 = some (7, 4) := by decide +kernel
theorem i141_68 : xIns xg 141 68 = some (.iload_n 1) := by decide +kernel
theorem i141_69 : xIns xg 141 69 = some (.iaload) := by decide +kernel
theorem i141_70 : xIns xg 141 70 = some (.iastore) := by decide +kernel
theorem i141_71 : xIns xg 141 71 = some (.aload_n 0) := by decide +kernel
theorem i141_72 : xIns xg 141 72 = some (.getfield 130) := by decide +kernel
theorem f141_130 : xFld xg 141 130 = some (7, 52) := by decide +kernel
theorem i141_75 : xIns xg 141 75 = some (.iload_n 1) := by decide +kernel
theorem i141_76 : xIns xg 141 76 = some (.aload_n 0) := by decide +kernel
theorem i141_77 : xIns xg 141 77 = some (.getfield 26) := by decide +kernel
theorem f141_26 : xFld xg 141 26 = some (7, 5) := by decide +kernel
theorem i141_80 : xIns xg 141 80 = some (.iload_n 1) := by decide +kernel
theorem i141_81 : xIns xg 141 81 = some (.laload) := by decide +kernel
theorem i141_82 : xIns xg 141 82 = some (.lastore) := by decide +kernel
theorem i141_83 : xIns xg 141 83 = some (.aload_n 0) := by decide +kernel
theorem i141_84 : xIns xg 141 84 = some (.getfield 133) := by decide +kernel
theorem f141_133 : xFld xg 141 133 = some (7, 53) := by decide +kernel
theorem i141_87 : xIns xg 141 87 = some (.iload_n 1) := by decide +kernel
theorem i141_88 : xIns xg 141 88 = some (.aload_n 0) := by decide +kernel
theorem i141_89 : xIns xg 141 89 = some (.getfield 30) := by decide +kernel
theorem f141_30 : xFld xg 141 30 = some (7, 6) := by decide +kernel
theorem i141_92 : xIns xg 141 92 = some (.iload_n 1) := by decide +kernel
theorem i141_93 : xIns xg 141 93 = some (.laload) := by decide +kernel
theorem i141_94 : xIns xg 141 94 = some (.lastore) := by decide +kernel
theorem i141_95 : xIns xg 141 95 = some (.aload_n 0) := by decide +kernel
theorem i141_96 : xIns xg 141 96 = some (.getfield 136) := by decide +kernel
theorem f141_136 : xFld xg 141 136 = some (7, 54) := by decide +kernel
theorem i141_99 : xIns xg 141 99 = some (.iload_n 1) := by decide +kernel
theorem i141_100 : xIns xg 141 100 = some (.aload_n 0) := by decide +kernel
theorem i141_101 : xIns xg 141 101 = some (.getfield 33) := by decide +kernel
theorem f141_33 : xFld xg 141 33 = some (7, 7) := by decide +kernel
theorem i141_104 : xIns xg 141 104 = some (.iload_n 1) := by decide +kernel
theorem i141_105 : xIns xg 141 105 = some (.iaload) := by decide +kernel
theorem i141_106 : xIns xg 141 106 = some (.iastore) := by decide +kernel
theorem i141_107 : xIns xg 141 107 = some (.aload_n 0) := by decide +kernel
theorem i141_108 : xIns xg 141 108 = some (.getfield 142) := by decide +kernel
theorem f141_142 : xFld xg 141 142 = some (7, 56) := by decide +kernel
theorem i141_111 : xIns xg 141 111 = some (.iload_n 1) := by decide +kernel
theorem i141_112 : xIns xg 141 112 = some (.aload_n 0) := by decide +kernel
theorem i141_113 : xIns xg 141 113 = some (.getfield 42) := by decide +kernel
theorem f141_42 : xFld xg 141 42 = some (7, 10) := by decide +kernel
theorem i141_116 : xIns xg 141 116 = some (.iload_n 1) := by decide +kernel
theorem i141_117 : xIns xg 141 117 = some (.iaload) := by decide +kernel
theorem i141_118 : xIns xg 141 118 = some (.iastore) := by decide +kernel
theorem i141_119 : xIns xg 141 119 = some (.aload_n 0) := by decide +kernel
theorem i141_120 : xIns xg 141 120 = some (.getfield 145) := by decide +kernel
theorem f141_145 : xFld xg 141 145 = some (7, 57) := by decide +kernel
theorem i141_123 : xIns xg 141 123 = some (.iload_n 1) := by decide +kernel
theorem i141_124 : xIns xg 141 124 = some (.aload_n 0) := by decide +kernel
theorem i141_125 : xIns xg 141 125 = some (.getfield 45) := by decide +kernel
theorem f141_45 : xFld xg 141 45 = some (7, 11) := by decide +kernel
theorem i141_128 : xIns xg 141 128 = some (.iload_n 1) := by decide +kernel
theorem i141_129 : xIns xg 141 129 = some (.iaload) := by decide +kernel
theorem i141_130 : xIns xg 141 130 = some (.iastore) := by decide +kernel
theorem i141_131 : xIns xg 141 131 = some (.aload_n 0) := by decide +kernel
theorem i141_132 : xIns xg 141 132 = some (.getfield 148) := by decide +kernel
theorem f141_148 : xFld xg 141 148 = some (7, 58) := by decide +kernel
theorem i141_135 : xIns xg 141 135 = some (.iload_n 1) := by decide +kernel
theorem i141_136 : xIns xg 141 136 = some (.aload_n 0) := by decide +kernel
theorem i141_137 : xIns xg 141 137 = some (.getfield 52) := by decide +kernel
theorem f141_52 : xFld xg 141 52 = some (7, 13) := by decide +kernel
theorem i141_140 : xIns xg 141 140 = some (.iload_n 1) := by decide +kernel
theorem i141_141 : xIns xg 141 141 = some (.iaload) := by decide +kernel
theorem i141_142 : xIns xg 141 142 = some (.iastore) := by decide +kernel
theorem i141_143 : xIns xg 141 143 = some (.aload_n 0) := by decide +kernel
theorem i141_144 : xIns xg 141 144 = some (.getfield 151) := by decide +kernel
theorem f141_151 : xFld xg 141 151 = some (7, 59) := by decide +kernel
theorem i141_147 : xIns xg 141 147 = some (.iload_n 1) := by decide +kernel
theorem i141_148 : xIns xg 141 148 = some (.aload_n 0) := by decide +kernel
theorem i141_149 : xIns xg 141 149 = some (.getfield 55) := by decide +kernel
theorem f141_55 : xFld xg 141 55 = some (7, 14) := by decide +kernel
theorem i141_152 : xIns xg 141 152 = some (.iload_n 1) := by decide +kernel
theorem i141_153 : xIns xg 141 153 = some (.iaload) := by decide +kernel
theorem i141_154 : xIns xg 141 154 = some (.iastore) := by decide +kernel
theorem i141_155 : xIns xg 141 155 = some (.iinc 1 1) := by decide +kernel
theorem i141_158 : xIns xg 141 158 = some (.goto (-130)) := by decide +kernel
theorem i141_163 : xIns xg 141 163 = some (.iload_n 1) := by decide +kernel
theorem i141_164 : xIns xg 141 164 = some (.sipush 1536) := by decide +kernel
theorem i141_167 : xIns xg 141 167 = some (.if_icmp .ge 21) := by decide +kernel
theorem i141_170 : xIns xg 141 170 = some (.aload_n 0) := by decide +kernel
theorem i141_171 : xIns xg 141 171 = some (.getfield 139) := by decide +kernel
theorem f141_139 : xFld xg 141 139 = some (7, 55) := by decide +kernel
theorem i141_174 : xIns xg 141 174 = some (.iload_n 1) := by decide +kernel
theorem i141_175 : xIns xg 141 175 = some (.aload_n 0) := by decide +kernel
theorem i141_176 : xIns xg 141 176 = some (.getfield 36) := by decide +kernel
theorem f141_36 : xFld xg 141 36 = some (7, 8) := by decide +kernel
theorem i141_179 : xIns xg 141 179 = some (.iload_n 1) := by decide +kernel
theorem i141_180 : xIns xg 141 180 = some (.laload) := by decide +kernel
theorem i141_181 : xIns xg 141 181 = some (.lastore) := by decide +kernel
theorem i141_182 : xIns xg 141 182 = some (.iinc 1 1) := by decide +kernel
theorem i141_185 : xIns xg 141 185 = some (.goto (-22)) := by decide +kernel
theorem i141_190 : xIns xg 141 190 = some (.iload_n 1) := by decide +kernel
theorem i141_191 : xIns xg 141 191 = some (.sipush 12288) := by decide +kernel
theorem i141_194 : xIns xg 141 194 = some (.if_icmp .ge 45) := by decide +kernel
theorem i141_197 : xIns xg 141 197 = some (.aload_n 0) := by decide +kernel
theorem i141_198 : xIns xg 141 198 = some (.getfield 154) := by decide +kernel
theorem f141_154 : xFld xg 141 154 = some (7, 60) := by decide +kernel
theorem i141_201 : xIns xg 141 201 = some (.iload_n 1) := by decide +kernel
theorem i141_202 : xIns xg 141 202 = some (.aload_n 0) := by decide +kernel
theorem i141_203 : xIns xg 141 203 = some (.getfield 58) := by decide +kernel
theorem f141_58 : xFld xg 141 58 = some (7, 15) := by decide +kernel
theorem i141_206 : xIns xg 141 206 = some (.iload_n 1) := by decide +kernel
theorem i141_207 : xIns xg 141 207 = some (.iaload) := by decide +kernel
theorem i141_208 : xIns xg 141 208 = some (.iastore) := by decide +kernel
theorem i141_209 : xIns xg 141 209 = some (.aload_n 0) := by decide +kernel
theorem i141_210 : xIns xg 141 210 = some (.getfield 157) := by decide +kernel
theorem f141_157 : xFld xg 141 157 = some (7, 61) := by decide +kernel
theorem i141_213 : xIns xg 141 213 = some (.iload_n 1) := by decide +kernel
theorem i141_214 : xIns xg 141 214 = some (.aload_n 0) := by decide +kernel
theorem i141_215 : xIns xg 141 215 = some (.getfield 61) := by decide +kernel
theorem f141_61 : xFld xg 141 61 = some (7, 16) := by decide +kernel
theorem i141_218 : xIns xg 141 218 = some (.iload_n 1) := by decide +kernel
theorem i141_219 : xIns xg 141 219 = some (.laload) := by decide +kernel
theorem i141_220 : xIns xg 141 220 = some (.lastore) := by decide +kernel
theorem i141_221 : xIns xg 141 221 = some (.aload_n 0) := by decide +kernel
theorem i141_222 : xIns xg 141 222 = some (.getfield 160) := by decide +kernel
theorem f141_160 : xFld xg 141 160 = some (7, 62) := by decide +kernel
theorem i141_225 : xIns xg 141 225 = some (.iload_n 1) := by decide +kernel
theorem i141_226 : xIns xg 141 226 = some (.aload_n 0) := by decide +kernel
theorem i141_227 : xIns xg 141 227 = some (.getfield 64) := by decide +kernel
theorem f141_64 : xFld xg 141 64 = some (7, 17) := by decide +kernel
theorem i141_230 : xIns xg 141 230 = some (.iload_n 1) := by decide +kernel
theorem i141_231 : xIns xg 141 231 = some (.iaload) := by decide +kernel
theorem i141_232 : xIns xg 141 232 = some (.iastore) := by decide +kernel
theorem i141_233 : xIns xg 141 233 = some (.iinc 1 1) := by decide +kernel
theorem i141_236 : xIns xg 141 236 = some (.goto (-46)) := by decide +kernel
set_option maxHeartbeats 4000000 in
set_option maxRecDepth 100000 in
theorem m_unt1 {sc : xS} {d : Nat} {Q : xR → Prop} (f : Nat → xE) (p : Nat) (hp : p < 192) : ∀ (n i : Nat) (v : Int32), i + n = 64 → v = nI i → xT xg sc d 195 70 [(2, .int 64), (1, .int (nI p)), (0, .ref 77)] [] (hM f) Q → xT xg sc d 195 46 [(2, .int (v)), (1, .int (nI p)), (0, .ref 77)] [] (hM f) Q := by
  intro n
  induction n with
  | zero =>
    intro i v hi hv k
    obtain rfl : i = 64 := by omega
    have hv : v = 64 := hv
    subst hv
    refine wLin 47 i195_46 rfl rfl ?_
    refine wKb 49 64 i195_47 (by decide) rfl ?_
    refine wCT 70 i195_49 rfl (by decide) ?_
    exact k
  | succ n ih =>
    intro i v hi hv k
    have hb : i < 64 := by omega
    subst hv
    refine wLin 47 i195_46 rfl rfl ?_
    refine wKb 49 64 i195_47 (by decide) rfl ?_
    refine wCF 70 52 i195_49 rfl (decide_eq_false (nI_ge (a := i) (b := 64) hb (by decide))) rfl ?_
    refine wLan 53 i195_52 rfl rfl ?_
    refine wGet 56 (.ref 91) i195_53 f195_58 rfl rfl rfl ?_
    refine wKb 58 64 i195_56 (by decide) rfl ?_
    refine wLin 59 i195_58 rfl rfl ?_
    refine wA 60 i195_59 rfl rfl rfl ?_
    refine wLin 61 i195_60 rfl rfl ?_
    refine wA 62 i195_61 rfl rfl rfl ?_
    refine wK 63 0 i195_62 (by decide) rfl ?_
    refine wIasS 64 i195_63 rfl (x_ib2 64 rfl hp hb (by decide) (by decide)) rfl rfl ?_
    refine wInc 67 [(2, .int ((nI i) + 1)), (1, .int (nI p)), (0, .ref 77)] ((nI i) + 1) i195_64 m195 (by decide) rfl rfl rfl rfl ?_
    refine wGo 46 i195_67 rfl ?_
    exact ih (i + 1) _ (by omega) (nI_1 i) k
set_option maxHeartbeats 4000000 in
set_option maxRecDepth 100000 in
theorem m_unt2 {sc : xS} {d : Nat} {Q : xR → Prop} (f : Nat → xE) : ∀ (n i : Nat) (v : Int32), i + n = 192 → v = nI i → xT xg sc d 195 76 [(1, .int 192), (2, .int 64), (0, .ref 77)] [] (hM f) Q → xT xg sc d 195 2 [(1, .int (v)), (2, .int 64), (0, .ref 77)] [] (hM f) Q := by
  intro n
  induction n with
  | zero =>
    intro i v hi hv k
    obtain rfl : i = 192 := by omega
    have hv : v = 192 := hv
    subst hv
    refine wLin 3 i195_2 rfl rfl ?_
    refine wKs 6 192 i195_3 (by decide) rfl ?_
    refine wCT 76 i195_6 rfl (by decide) ?_
    exact k
  | succ n ih =>
    intro i v hi hv k
    have hb : i < 192 := by omega
    subst hv
    refine wLin 3 i195_2 rfl rfl ?_
    refine wKs 6 192 i195_3 (by decide) rfl ?_
    refine wCF 76 9 i195_6 rfl (decide_eq_false (nI_ge (a := i) (b := 192) hb (by decide))) rfl ?_
    refine wLan 10 i195_9 rfl rfl ?_
    refine wGet 13 (.ref 86) i195_10 f195_42 rfl rfl rfl ?_
    refine wLin 14 i195_13 rfl rfl ?_
    refine wK 15 0 i195_14 (by decide) rfl ?_
    refine wIasS 16 i195_15 rfl (xinb hb (by decide)) rfl rfl ?_
    refine wLan 17 i195_16 rfl rfl ?_
    refine wGet 20 (.ref 87) i195_17 f195_45 rfl rfl rfl ?_
    refine wLin 21 i195_20 rfl rfl ?_
    refine wK 22 0 i195_21 (by decide) rfl ?_
    refine wIasS 23 i195_22 rfl (xinb hb (by decide)) rfl rfl ?_
    refine wLan 24 i195_23 rfl rfl ?_
    refine wGet 27 (.ref 88) i195_24 f195_48 rfl rfl rfl ?_
    refine wLin 28 i195_27 rfl rfl ?_
    refine wK 29 0 i195_28 (by decide) rfl ?_
    refine wZasS 30 i195_29 rfl (xinb hb (by decide)) rfl rfl ?_
    refine wLan 31 i195_30 rfl rfl ?_
    refine wGet 34 (.ref 89) i195_31 f195_52 rfl rfl rfl ?_
    refine wLin 35 i195_34 rfl rfl ?_
    refine wK 36 0 i195_35 (by decide) rfl ?_
    refine wIasS 37 i195_36 rfl (xinb hb (by decide)) rfl rfl ?_
    refine wLan 38 i195_37 rfl rfl ?_
    refine wGet 41 (.ref 90) i195_38 f195_55 rfl rfl rfl ?_
    refine wLin 42 i195_41 rfl rfl ?_
    refine wK 43 0 i195_42 (by decide) rfl ?_
    refine wIasS 44 i195_43 rfl (xinb hb (by decide)) rfl rfl ?_
    refine wK 45 0 i195_44 (by decide) rfl ?_
    refine wSin 46 [(2, .int 0), (1, .int (nI i)), (0, .ref 77)] i195_45 m195 (by decide) rfl rfl ?_
    refine m_unt1 f i hb 64 0 0 rfl rfl ?_
    refine wInc 73 [(1, .int ((nI i) + 1)), (2, .int 64), (0, .ref 77)] ((nI i) + 1) i195_70 m195 (by decide) rfl rfl rfl rfl ?_
    refine wGo 2 i195_73 rfl ?_
    exact ih (i + 1) _ (by omega) (nI_1 i) k
set_option maxHeartbeats 4000000 in
set_option maxRecDepth 100000 in
theorem m_untells {sc : xS} {d : Nat} (f : Nat → xE) : xT xg sc d 195 0 [(0, .ref 77)] [] (hM f) (fun r => r = (none, hM f, 0, 0)) := by
  refine wK 1 0 i195_0 (by decide) rfl ?_
  refine wSin 2 [(1, .int 0), (0, .ref 77)] i195_1 m195 (by decide) rfl rfl ?_
  refine wLin 3 i195_2 rfl rfl ?_
  refine wKs 6 192 i195_3 (by decide) rfl ?_
  refine wCF 76 9 i195_6 rfl (by decide) rfl ?_
  refine wLan 10 i195_9 rfl rfl ?_
  refine wGet 13 (.ref 86) i195_10 f195_42 rfl rfl rfl ?_
  refine wLin 14 i195_13 rfl rfl ?_
  refine wK 15 0 i195_14 (by decide) rfl ?_
  refine wIasS 16 i195_15 rfl (by decide) rfl rfl ?_
  refine wLan 17 i195_16 rfl rfl ?_
  refine wGet 20 (.ref 87) i195_17 f195_45 rfl rfl rfl ?_
  refine wLin 21 i195_20 rfl rfl ?_
  refine wK 22 0 i195_21 (by decide) rfl ?_
  refine wIasS 23 i195_22 rfl (by decide) rfl rfl ?_
  refine wLan 24 i195_23 rfl rfl ?_
  refine wGet 27 (.ref 88) i195_24 f195_48 rfl rfl rfl ?_
  refine wLin 28 i195_27 rfl rfl ?_
  refine wK 29 0 i195_28 (by decide) rfl ?_
  refine wZasS 30 i195_29 rfl (by decide) rfl rfl ?_
  refine wLan 31 i195_30 rfl rfl ?_
  refine wGet 34 (.ref 89) i195_31 f195_52 rfl rfl rfl ?_
  refine wLin 35 i195_34 rfl rfl ?_
  refine wK 36 0 i195_35 (by decide) rfl ?_
  refine wIasS 37 i195_36 rfl (by decide) rfl rfl ?_
  refine wLan 38 i195_37 rfl rfl ?_
  refine wGet 41 (.ref 90) i195_38 f195_55 rfl rfl rfl ?_
  refine wLin 42 i195_41 rfl rfl ?_
  refine wK 43 0 i195_42 (by decide) rfl ?_
  refine wIasS 44 i195_43 rfl (by decide) rfl rfl ?_
  refine wK 45 0 i195_44 (by decide) rfl ?_
  refine wSin 46 [(2, .int 0), (1, .int 0), (0, .ref 77)] i195_45 m195 (by decide) rfl rfl ?_
  refine m_unt1 f 0 (by decide) 64 0 0 rfl rfl ?_
  refine wInc 73 [(1, .int 1), (2, .int 64), (0, .ref 77)] 1 i195_70 m195 (by decide) rfl (by decide) rfl rfl ?_
  refine wGo 2 i195_73 rfl ?_
  refine m_unt2 f 191 1 1 rfl rfl ?_
  refine wR0 i195_76 m195 ?_
  exact rfl
set_option maxHeartbeats 4000000 in
set_option maxRecDepth 100000 in
theorem m_im1 {sc : xS} {d : Nat} {Q : xR → Prop} (f : Nat → xE) : ∀ (n i : Nat) (v : Int32), i + n = 8 → v = nI i → xT xg sc d 141 26 [(1, .int 8), (0, .ref 77)] [] (hM f) Q → xT xg sc d 141 2 [(1, .int (v)), (0, .ref 77)] [] (hM f) Q := by
  intro n
  induction n with
  | zero =>
    intro i v hi hv k
    obtain rfl : i = 8 := by omega
    have hv : v = 8 := hv
    subst hv
    refine wLin 3 i141_2 rfl rfl ?_
    refine wKb 5 8 i141_3 (by decide) rfl ?_
    refine wCT 26 i141_5 rfl (by decide) ?_
    exact k
  | succ n ih =>
    intro i v hi hv k
    have hb : i < 8 := by omega
    subst hv
    refine wLin 3 i141_2 rfl rfl ?_
    refine wKb 5 8 i141_3 (by decide) rfl ?_
    refine wCF 26 8 i141_5 rfl (decide_eq_false (nI_ge (a := i) (b := 8) hb (by decide))) rfl ?_
    refine wLan 9 i141_8 rfl rfl ?_
    refine wGet 12 (.ref 111) i141_9 f141_118 rfl rfl rfl ?_
    refine wLin 13 i141_12 rfl rfl ?_
    refine wLan 14 i141_13 rfl rfl ?_
    refine wGet 17 (.ref 78) i141_14 f141_13 rfl rfl rfl ?_
    refine wLin 18 i141_17 rfl rfl ?_
    refine wIal 19 i141_18 rfl (xinb hb (by decide)) rfl ?_
    refine tTop (v := 0) rfl ?_
    refine wIasS 20 i141_19 rfl (xinb hb (by decide)) rfl rfl ?_
    refine wInc 23 [(1, .int ((nI i) + 1)), (0, .ref 77)] ((nI i) + 1) i141_20 m141 (by decide) rfl rfl rfl rfl ?_
    refine wGo 2 i141_23 rfl ?_
    exact ih (i + 1) _ (by omega) (nI_1 i) k
set_option maxHeartbeats 4000000 in
set_option maxRecDepth 100000 in
theorem m_im2 {sc : xS} {d : Nat} {Q : xR → Prop} (f : Nat → xE) : ∀ (n i : Nat) (v : Int32), i + n = 192 → v = nI i → xT xg sc d 141 161 [(1, .int 192), (0, .ref 77)] [] (hM f) Q → xT xg sc d 141 28 [(1, .int (v)), (0, .ref 77)] [] (hM f) Q := by
  intro n
  induction n with
  | zero =>
    intro i v hi hv k
    obtain rfl : i = 192 := by omega
    have hv : v = 192 := hv
    subst hv
    refine wLin 29 i141_28 rfl rfl ?_
    refine wKs 32 192 i141_29 (by decide) rfl ?_
    refine wCT 161 i141_32 rfl (by decide) ?_
    exact k
  | succ n ih =>
    intro i v hi hv k
    have hb : i < 192 := by omega
    subst hv
    refine wLin 29 i141_28 rfl rfl ?_
    refine wKs 32 192 i141_29 (by decide) rfl ?_
    refine wCF 161 35 i141_32 rfl (decide_eq_false (nI_ge (a := i) (b := 192) hb (by decide))) rfl ?_
    refine wLan 36 i141_35 rfl rfl ?_
    refine wGet 39 (.ref 112) i141_36 f141_121 rfl rfl rfl ?_
    refine wLin 40 i141_39 rfl rfl ?_
    refine wLan 41 i141_40 rfl rfl ?_
    refine wGet 44 (.ref 79) i141_41 f141_17 rfl rfl rfl ?_
    refine wLin 45 i141_44 rfl rfl ?_
    refine wIal 46 i141_45 rfl (xinb hb (by decide)) rfl ?_
    refine tTop (v := 0) rfl ?_
    refine wIasS 47 i141_46 rfl (xinb hb (by decide)) rfl rfl ?_
    refine wLan 48 i141_47 rfl rfl ?_
    refine wGet 51 (.ref 113) i141_48 f141_124 rfl rfl rfl ?_
    refine wLin 52 i141_51 rfl rfl ?_
    refine wLan 53 i141_52 rfl rfl ?_
    refine wGet 56 (.ref 80) i141_53 f141_20 rfl rfl rfl ?_
    refine wLin 57 i141_56 rfl rfl ?_
    refine wIal 58 i141_57 rfl (xinb hb (by decide)) rfl ?_
    refine tTop (v := 0) rfl ?_
    refine wIasS 59 i141_58 rfl (xinb hb (by decide)) rfl rfl ?_
    refine wLan 60 i141_59 rfl rfl ?_
    refine wGet 63 (.ref 114) i141_60 f141_127 rfl rfl rfl ?_
    refine wLin 64 i141_63 rfl rfl ?_
    refine wLan 65 i141_64 rfl rfl ?_
    refine wGet 68 (.ref 81) i141_65 f141_23 rfl rfl rfl ?_
    refine wLin 69 i141_68 rfl rfl ?_
    refine wIal 70 i141_69 rfl (xinb hb (by decide)) rfl ?_
    refine tTop (v := 0) rfl ?_
    refine wIasS 71 i141_70 rfl (xinb hb (by decide)) rfl rfl ?_
    refine wLan 72 i141_71 rfl rfl ?_
    refine wGet 75 (.ref 115) i141_72 f141_130 rfl rfl rfl ?_
    refine wLin 76 i141_75 rfl rfl ?_
    refine wLan 77 i141_76 rfl rfl ?_
    refine wGet 80 (.ref 82) i141_77 f141_26 rfl rfl rfl ?_
    refine wLin 81 i141_80 rfl rfl ?_
    refine wLal 82 i141_81 rfl (xinb hb (by decide)) rfl ?_
    refine tTopL (v := 0) rfl ?_
    refine wLasS 83 i141_82 rfl (xinb hb (by decide)) rfl rfl ?_
    refine wLan 84 i141_83 rfl rfl ?_
    refine wGet 87 (.ref 116) i141_84 f141_133 rfl rfl rfl ?_
    refine wLin 88 i141_87 rfl rfl ?_
    refine wLan 89 i141_88 rfl rfl ?_
    refine wGet 92 (.ref 83) i141_89 f141_30 rfl rfl rfl ?_
    refine wLin 93 i141_92 rfl rfl ?_
    refine wLal 94 i141_93 rfl (xinb hb (by decide)) rfl ?_
    refine tTopL (v := 0) rfl ?_
    refine wLasS 95 i141_94 rfl (xinb hb (by decide)) rfl rfl ?_
    refine wLan 96 i141_95 rfl rfl ?_
    refine wGet 99 (.ref 117) i141_96 f141_136 rfl rfl rfl ?_
    refine wLin 100 i141_99 rfl rfl ?_
    refine wLan 101 i141_100 rfl rfl ?_
    refine wGet 104 (.ref 84) i141_101 f141_33 rfl rfl rfl ?_
    refine wLin 105 i141_104 rfl rfl ?_
    refine wIal 106 i141_105 rfl (xinb hb (by decide)) rfl ?_
    refine tTop (v := 0) rfl ?_
    refine wIasS 107 i141_106 rfl (xinb hb (by decide)) rfl rfl ?_
    refine wLan 108 i141_107 rfl rfl ?_
    refine wGet 111 (.ref 119) i141_108 f141_142 rfl rfl rfl ?_
    refine wLin 112 i141_111 rfl rfl ?_
    refine wLan 113 i141_112 rfl rfl ?_
    refine wGet 116 (.ref 86) i141_113 f141_42 rfl rfl rfl ?_
    refine wLin 117 i141_116 rfl rfl ?_
    refine wIal 118 i141_117 rfl (xinb hb (by decide)) rfl ?_
    refine tTop (v := 0) rfl ?_
    refine wIasS 119 i141_118 rfl (xinb hb (by decide)) rfl rfl ?_
    refine wLan 120 i141_119 rfl rfl ?_
    refine wGet 123 (.ref 120) i141_120 f141_145 rfl rfl rfl ?_
    refine wLin 124 i141_123 rfl rfl ?_
    refine wLan 125 i141_124 rfl rfl ?_
    refine wGet 128 (.ref 87) i141_125 f141_45 rfl rfl rfl ?_
    refine wLin 129 i141_128 rfl rfl ?_
    refine wIal 130 i141_129 rfl (xinb hb (by decide)) rfl ?_
    refine tTop (v := 0) rfl ?_
    refine wIasS 131 i141_130 rfl (xinb hb (by decide)) rfl rfl ?_
    refine wLan 132 i141_131 rfl rfl ?_
    refine wGet 135 (.ref 121) i141_132 f141_148 rfl rfl rfl ?_
    refine wLin 136 i141_135 rfl rfl ?_
    refine wLan 137 i141_136 rfl rfl ?_
    refine wGet 140 (.ref 89) i141_137 f141_52 rfl rfl rfl ?_
    refine wLin 141 i141_140 rfl rfl ?_
    refine wIal 142 i141_141 rfl (xinb hb (by decide)) rfl ?_
    refine tTop (v := 0) rfl ?_
    refine wIasS 143 i141_142 rfl (xinb hb (by decide)) rfl rfl ?_
    refine wLan 144 i141_143 rfl rfl ?_
    refine wGet 147 (.ref 122) i141_144 f141_151 rfl rfl rfl ?_
    refine wLin 148 i141_147 rfl rfl ?_
    refine wLan 149 i141_148 rfl rfl ?_
    refine wGet 152 (.ref 90) i141_149 f141_55 rfl rfl rfl ?_
    refine wLin 153 i141_152 rfl rfl ?_
    refine wIal 154 i141_153 rfl (xinb hb (by decide)) rfl ?_
    refine tTop (v := 0) rfl ?_
    refine wIasS 155 i141_154 rfl (xinb hb (by decide)) rfl rfl ?_
    refine wInc 158 [(1, .int ((nI i) + 1)), (0, .ref 77)] ((nI i) + 1) i141_155 m141 (by decide) rfl rfl rfl rfl ?_
    refine wGo 28 i141_158 rfl ?_
    exact ih (i + 1) _ (by omega) (nI_1 i) k
set_option maxHeartbeats 4000000 in
set_option maxRecDepth 100000 in
theorem m_im3 {sc : xS} {d : Nat} {Q : xR → Prop} (f : Nat → xE) : ∀ (n i : Nat) (v : Int32), i + n = 1536 → v = nI i → xT xg sc d 141 188 [(1, .int 1536), (0, .ref 77)] [] (hM f) Q → xT xg sc d 141 163 [(1, .int (v)), (0, .ref 77)] [] (hM f) Q := by
  intro n
  induction n with
  | zero =>
    intro i v hi hv k
    obtain rfl : i = 1536 := by omega
    have hv : v = 1536 := hv
    subst hv
    refine wLin 164 i141_163 rfl rfl ?_
    refine wKs 167 1536 i141_164 (by decide) rfl ?_
    refine wCT 188 i141_167 rfl (by decide) ?_
    exact k
  | succ n ih =>
    intro i v hi hv k
    have hb : i < 1536 := by omega
    subst hv
    refine wLin 164 i141_163 rfl rfl ?_
    refine wKs 167 1536 i141_164 (by decide) rfl ?_
    refine wCF 188 170 i141_167 rfl (decide_eq_false (nI_ge (a := i) (b := 1536) hb (by decide))) rfl ?_
    refine wLan 171 i141_170 rfl rfl ?_
    refine wGet 174 (.ref 118) i141_171 f141_139 rfl rfl rfl ?_
    refine wLin 175 i141_174 rfl rfl ?_
    refine wLan 176 i141_175 rfl rfl ?_
    refine wGet 179 (.ref 85) i141_176 f141_36 rfl rfl rfl ?_
    refine wLin 180 i141_179 rfl rfl ?_
    refine wLal 181 i141_180 rfl (xinb hb (by decide)) rfl ?_
    refine tTopL (v := 0) rfl ?_
    refine wLasS 182 i141_181 rfl (xinb hb (by decide)) rfl rfl ?_
    refine wInc 185 [(1, .int ((nI i) + 1)), (0, .ref 77)] ((nI i) + 1) i141_182 m141 (by decide) rfl rfl rfl rfl ?_
    refine wGo 163 i141_185 rfl ?_
    exact ih (i + 1) _ (by omega) (nI_1 i) k
set_option maxHeartbeats 4000000 in
set_option maxRecDepth 100000 in
theorem m_im4 {sc : xS} {d : Nat} {Q : xR → Prop} (f : Nat → xE) : ∀ (n i : Nat) (v : Int32), i + n = 12288 → v = nI i → xT xg sc d 141 239 [(1, .int 12288), (0, .ref 77)] [] (hM f) Q → xT xg sc d 141 190 [(1, .int (v)), (0, .ref 77)] [] (hM f) Q := by
  intro n
  induction n with
  | zero =>
    intro i v hi hv k
    obtain rfl : i = 12288 := by omega
    have hv : v = 12288 := hv
    subst hv
    refine wLin 191 i141_190 rfl rfl ?_
    refine wKs 194 12288 i141_191 (by decide) rfl ?_
    refine wCT 239 i141_194 rfl (by decide) ?_
    exact k
  | succ n ih =>
    intro i v hi hv k
    have hb : i < 12288 := by omega
    subst hv
    refine wLin 191 i141_190 rfl rfl ?_
    refine wKs 194 12288 i141_191 (by decide) rfl ?_
    refine wCF 239 197 i141_194 rfl (decide_eq_false (nI_ge (a := i) (b := 12288) hb (by decide))) rfl ?_
    refine wLan 198 i141_197 rfl rfl ?_
    refine wGet 201 (.ref 123) i141_198 f141_154 rfl rfl rfl ?_
    refine wLin 202 i141_201 rfl rfl ?_
    refine wLan 203 i141_202 rfl rfl ?_
    refine wGet 206 (.ref 91) i141_203 f141_58 rfl rfl rfl ?_
    refine wLin 207 i141_206 rfl rfl ?_
    refine wIal 208 i141_207 rfl (xinb hb (by decide)) rfl ?_
    refine tTop (v := 0) rfl ?_
    refine wIasS 209 i141_208 rfl (xinb hb (by decide)) rfl rfl ?_
    refine wLan 210 i141_209 rfl rfl ?_
    refine wGet 213 (.ref 124) i141_210 f141_157 rfl rfl rfl ?_
    refine wLin 214 i141_213 rfl rfl ?_
    refine wLan 215 i141_214 rfl rfl ?_
    refine wGet 218 (.ref 92) i141_215 f141_61 rfl rfl rfl ?_
    refine wLin 219 i141_218 rfl rfl ?_
    refine wLal 220 i141_219 rfl (xinb hb (by decide)) rfl ?_
    refine tTopL (v := 0) rfl ?_
    refine wLasS 221 i141_220 rfl (xinb hb (by decide)) rfl rfl ?_
    refine wLan 222 i141_221 rfl rfl ?_
    refine wGet 225 (.ref 125) i141_222 f141_160 rfl rfl rfl ?_
    refine wLin 226 i141_225 rfl rfl ?_
    refine wLan 227 i141_226 rfl rfl ?_
    refine wGet 230 (.ref 93) i141_227 f141_64 rfl rfl rfl ?_
    refine wLin 231 i141_230 rfl rfl ?_
    refine wIal 232 i141_231 rfl (xinb hb (by decide)) rfl ?_
    refine tTop (v := 0) rfl ?_
    refine wIasS 233 i141_232 rfl (xinb hb (by decide)) rfl rfl ?_
    refine wInc 236 [(1, .int ((nI i) + 1)), (0, .ref 77)] ((nI i) + 1) i141_233 m141 (by decide) rfl rfl rfl rfl ?_
    refine wGo 190 i141_236 rfl ?_
    exact ih (i + 1) _ (by omega) (nI_1 i) k
