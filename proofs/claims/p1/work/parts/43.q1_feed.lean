theorem i86_0 : xIns xg 86 0 = some (.iload_n 1) := by decide +kernel
theorem i86_1 : xIns xg 86 1 = some (.ifCond .lt 10) := by decide +kernel
theorem i86_11 : xIns xg 86 11 = some (.bipush (-2)) := by decide +kernel
theorem i86_13 : xIns xg 86 13 = some (.ireturn) := by decide +kernel
theorem m86 : (xMet xg 86).2.2 = (2, (some .int)) := by decide +kernel
theorem i86_4 : xIns xg 86 4 = some (.iload_n 1) := by decide +kernel
theorem i86_5 : xIns xg 86 5 = some (.sipush 255) := by decide +kernel
theorem i86_8 : xIns xg 86 8 = some (.if_icmp .le 6) := by decide +kernel
theorem i86_14 : xIns xg 86 14 = some (.aload_n 0) := by decide +kernel
theorem i86_15 : xIns xg 86 15 = some (.getfield 10) := by decide +kernel
theorem f86_10 : xFld xg 86 10 = some (6, 0) := by decide +kernel
theorem i86_18 : xIns xg 86 18 = some (.iload_n 1) := by decide +kernel
theorem i86_19 : xIns xg 86 19 = some (.invokevirtual 82) := by decide +kernel
theorem l86_82 : xMth xg 86 82 = some (0, 16, 2, 1) := by decide +kernel
theorem m16 : (xMet xg 16).2.2 = (2, (some .int)) := by decide +kernel
theorem i16_0 : xIns xg 16 0 = some (.aload_n 0) := by decide +kernel
theorem i16_1 : xIns xg 16 1 = some (.getfield 20) := by decide +kernel
theorem f16_20 : xFld xg 16 20 = some (1, 1) := by decide +kernel
theorem i16_4 : xIns xg 16 4 = some (.bipush 120) := by decide +kernel
theorem i16_6 : xIns xg 16 6 = some (.if_icmp .lt 6) := by decide +kernel
theorem i16_12 : xIns xg 16 12 = some (.aload_n 0) := by decide +kernel
theorem i16_13 : xIns xg 16 13 = some (.getfield 24) := by decide +kernel
theorem f16_24 : xFld xg 16 24 = some (1, 2) := by decide +kernel
theorem i16_16 : xIns xg 16 16 = some (.aload_n 0) := by decide +kernel
theorem i16_17 : xIns xg 16 17 = some (.getfield 20) := by decide +kernel
theorem i16_20 : xIns xg 16 20 = some (.iload_n 1) := by decide +kernel
theorem i16_21 : xIns xg 16 21 = some (.iastore) := by decide +kernel
theorem i16_22 : xIns xg 16 22 = some (.aload_n 0) := by decide +kernel
theorem i16_23 : xIns xg 16 23 = some (.dup) := by decide +kernel
theorem i16_24 : xIns xg 16 24 = some (.getfield 20) := by decide +kernel
theorem i16_27 : xIns xg 16 27 = some (.iconst 1) := by decide +kernel
theorem i16_28 : xIns xg 16 28 = some (.iadd) := by decide +kernel
theorem i16_29 : xIns xg 16 29 = some (.putfield 20) := by decide +kernel
theorem p16_20 : xPut xg 16 20 = some (1, 1, .int) := by decide +kernel
theorem i16_32 : xIns xg 16 32 = some (.aload_n 0) := by decide +kernel
theorem i16_33 : xIns xg 16 33 = some (.getfield 20) := by decide +kernel
theorem i16_36 : xIns xg 16 36 = some (.ireturn) := by decide +kernel
theorem i86_22 : xIns xg 86 22 = some (.ireturn) := by decide +kernel
theorem i117_0 : xIns xg 117 0 = some (.iload_n 1) := by decide +kernel
theorem i117_1 : xIns xg 117 1 = some (.invokestatic 86) := by decide +kernel
theorem l117_86 : xMth xg 117 86 = some (1, 98, 1, 0) := by decide +kernel
theorem i117_4 : xIns xg 117 4 = some (.ifCond .ne 6) := by decide +kernel
theorem i117_7 : xIns xg 117 7 = some (.bipush (-2)) := by decide +kernel
theorem i117_9 : xIns xg 117 9 = some (.ireturn) := by decide +kernel
theorem m117 : (xMet xg 117).2.2 = (3, (some .int)) := by decide +kernel
theorem i117_10 : xIns xg 117 10 = some (.aload_n 0) := by decide +kernel
theorem i117_11 : xIns xg 117 11 = some (.getfield 10) := by decide +kernel
theorem f117_10 : xFld xg 117 10 = some (6, 0) := by decide +kernel
theorem i117_14 : xIns xg 117 14 = some (.invokevirtual 90) := by decide +kernel
theorem l117_90 : xMth xg 117 90 = some (0, 29, 1, 1) := by decide +kernel
theorem m29 : (xMet xg 29).2.2 = (3, (some .int)) := by decide +kernel
theorem i29_0 : xIns xg 29 0 = some (.aload_n 0) := by decide +kernel
theorem i29_1 : xIns xg 29 1 = some (.invokevirtual 43) := by decide +kernel
theorem l29_43 : xMth xg 29 43 = some (0, 31, 1, 1) := by decide +kernel
theorem m31 : (xMet xg 31).2.2 = (6, none) := by decide +kernel
theorem i31_0 : xIns xg 31 0 = some (.iconst 0) := by decide +kernel
theorem i31_1 : xIns xg 31 1 = some (.istore_n 1) := by decide +kernel
theorem i31_2 : xIns xg 31 2 = some (.iconst 0) := by decide +kernel
theorem i31_3 : xIns xg 31 3 = some (.istore_n 2) := by decide +kernel
theorem i31_4 : xIns xg 31 4 = some (.iconst 0) := by decide +kernel
theorem i31_5 : xIns xg 31 5 = some (.istore_n 3) := by decide +kernel
theorem i31_6 : xIns xg 31 6 = some (.iload_n 3) := by decide +kernel
theorem i31_7 : xIns xg 31 7 = some (.aload_n 0) := by decide +kernel
theorem i31_8 : xIns xg 31 8 = some (.getfield 20) := by decide +kernel
theorem f31_20 : xFld xg 31 20 = some (1, 1) := by decide +kernel
theorem i31_11 : xIns xg 31 11 = some (.if_icmp .ge 137) := by decide +kernel
theorem i31_148 : xIns xg 31 148 = some (.aload_n 0) := by decide +kernel
theorem i31_149 : xIns xg 31 149 = some (.getfield 28) := by decide +kernel
theorem f31_28 : xFld xg 31 28 = some (1, 3) := by decide +kernel
theorem i31_152 : xIns xg 31 152 = some (.iload_n 1) := by decide +kernel
theorem i31_153 : xIns xg 31 153 = some (.aload_n 0) := by decide +kernel
theorem i31_154 : xIns xg 31 154 = some (.getfield 20) := by decide +kernel
theorem i31_157 : xIns xg 31 157 = some (.iastore) := by decide +kernel
theorem i31_158 : xIns xg 31 158 = some (.aload_n 0) := by decide +kernel
theorem i31_159 : xIns xg 31 159 = some (.getfield 31) := by decide +kernel
theorem f31_31 : xFld xg 31 31 = some (1, 4) := by decide +kernel
theorem i31_162 : xIns xg 31 162 = some (.iload_n 1) := by decide +kernel
theorem i31_163 : xIns xg 31 163 = some (.iconst 0) := by decide +kernel
theorem i31_164 : xIns xg 31 164 = some (.iastore) := by decide +kernel
theorem i31_165 : xIns xg 31 165 = some (.aload_n 0) := by decide +kernel
theorem i31_166 : xIns xg 31 166 = some (.getfield 34) := by decide +kernel
theorem f31_34 : xFld xg 31 34 = some (1, 5) := by decide +kernel
theorem i31_169 : xIns xg 31 169 = some (.iload_n 1) := by decide +kernel
theorem i31_170 : xIns xg 31 170 = some (.iconst 0) := by decide +kernel
theorem i31_171 : xIns xg 31 171 = some (.iastore) := by decide +kernel
theorem i31_172 : xIns xg 31 172 = some (.return_) := by decide +kernel
theorem i29_4 : xIns xg 29 4 = some (.aload_n 0) := by decide +kernel
theorem i29_5 : xIns xg 29 5 = some (.iconst 0) := by decide +kernel
theorem i29_6 : xIns xg 29 6 = some (.putfield 37) := by decide +kernel
theorem p29_37 : xPut xg 29 37 = some (1, 6, .int) := by decide +kernel
theorem i29_9 : xIns xg 29 9 = some (.aload_n 0) := by decide +kernel
theorem i29_10 : xIns xg 29 10 = some (.iconst (-1)) := by decide +kernel
theorem i29_11 : xIns xg 29 11 = some (.putfield 40) := by decide +kernel
theorem p29_40 : xPut xg 29 40 = some (1, 7, .int) := by decide +kernel
theorem i29_14 : xIns xg 29 14 = some (.iconst 0) := by decide +kernel
theorem i29_15 : xIns xg 29 15 = some (.istore_n 1) := by decide +kernel
theorem i29_16 : xIns xg 29 16 = some (.iconst 1) := by decide +kernel
theorem i29_17 : xIns xg 29 17 = some (.istore_n 2) := by decide +kernel
theorem i29_18 : xIns xg 29 18 = some (.iload_n 1) := by decide +kernel
theorem i29_19 : xIns xg 29 19 = some (.bipush 24) := by decide +kernel
theorem i29_21 : xIns xg 29 21 = some (.if_icmp .ge 43) := by decide +kernel
theorem i29_24 : xIns xg 29 24 = some (.iload_n 2) := by decide +kernel
theorem i29_25 : xIns xg 29 25 = some (.ifCond .le 39) := by decide +kernel
theorem i29_28 : xIns xg 29 28 = some (.aload_n 0) := by decide +kernel
theorem i29_29 : xIns xg 29 29 = some (.getfield 40) := by decide +kernel
theorem f29_40 : xFld xg 29 40 = some (1, 7) := by decide +kernel
theorem i29_32 : xIns xg 29 32 = some (.iconst (-1)) := by decide +kernel
theorem i29_33 : xIns xg 29 33 = some (.if_icmp .ne 31) := by decide +kernel
theorem i29_36 : xIns xg 29 36 = some (.aload_n 0) := by decide +kernel
theorem i29_37 : xIns xg 29 37 = some (.iload_n 1) := by decide +kernel
theorem i29_38 : xIns xg 29 38 = some (.invokevirtual 46) := by decide +kernel
theorem l29_46 : xMth xg 29 46 = some (0, 27, 2, 1) := by decide +kernel
theorem m27 : (xMet xg 27).2.2 = (5, none) := by decide +kernel
theorem i27_0 : xIns xg 27 0 = some (.aload_n 0) := by decide +kernel
theorem i27_1 : xIns xg 27 1 = some (.getfield 31) := by decide +kernel
theorem f27_31 : xFld xg 27 31 = some (1, 4) := by decide +kernel
theorem i27_4 : xIns xg 27 4 = some (.aload_n 0) := by decide +kernel
theorem i27_5 : xIns xg 27 5 = some (.getfield 37) := by decide +kernel
theorem f27_37 : xFld xg 27 37 = some (1, 6) := by decide +kernel
theorem i27_8 : xIns xg 27 8 = some (.iaload) := by decide +kernel
theorem i27_9 : xIns xg 27 9 = some (.iconst 1) := by decide +kernel
theorem i27_10 : xIns xg 27 10 = some (.if_icmp .ne 15) := by decide +kernel
theorem i27_25 : xIns xg 27 25 = some (.iconst (-1)) := by decide +kernel
theorem i27_26 : xIns xg 27 26 = some (.istore_n 2) := by decide +kernel
theorem i27_27 : xIns xg 27 27 = some (.aload_n 0) := by decide +kernel
theorem i27_28 : xIns xg 27 28 = some (.getfield 14) := by decide +kernel
theorem f27_14 : xFld xg 27 14 = some (1, 0) := by decide +kernel
theorem i27_31 : xIns xg 27 31 = some (.iload_n 1) := by decide +kernel
theorem i27_32 : xIns xg 27 32 = some (.iload_n 2) := by decide +kernel
theorem i27_33 : xIns xg 27 33 = some (.iconst 0) := by decide +kernel
theorem i27_34 : xIns xg 27 34 = some (.invokestatic 65) := by decide +kernel
theorem l27_65 : xMth xg 27 65 = some (8, 0, 0, 0) := by decide +kernel
theorem i27_37 : xIns xg 27 37 = some (.invokevirtual 71) := by decide +kernel
theorem l27_71 : xMth xg 27 71 = some (0, 62, 3, 4) := by decide +kernel
theorem m62 : (xMet xg 62).2.2 = (3, none) := by decide +kernel
theorem i62_0 : xIns xg 62 0 = some (.aload_n 0) := by decide +kernel
theorem i62_1 : xIns xg 62 1 = some (.getfield 15) := by decide +kernel
theorem f62_15 : xFld xg 62 15 = some (4, 1) := by decide +kernel
theorem i62_4 : xIns xg 62 4 = some (.iload_n 1) := by decide +kernel
theorem i62_5 : xIns xg 62 5 = some (.iload_n 2) := by decide +kernel
theorem i62_6 : xIns xg 62 6 = some (.iastore) := by decide +kernel
theorem i62_7 : xIns xg 62 7 = some (.aload_n 0) := by decide +kernel
theorem i62_8 : xIns xg 62 8 = some (.getfield 18) := by decide +kernel
theorem f62_18 : xFld xg 62 18 = some (4, 2) := by decide +kernel
theorem i62_11 : xIns xg 62 11 = some (.iload_n 1) := by decide +kernel
theorem i62_12 : xIns xg 62 12 = some (.iconst 0) := by decide +kernel
theorem i62_13 : xIns xg 62 13 = some (.iastore) := by decide +kernel
theorem i62_14 : xIns xg 62 14 = some (.aload_n 0) := by decide +kernel
theorem i62_15 : xIns xg 62 15 = some (.getfield 21) := by decide +kernel
theorem f62_21 : xFld xg 62 21 = some (4, 3) := by decide +kernel
theorem i62_18 : xIns xg 62 18 = some (.iload_n 1) := by decide +kernel
theorem i62_19 : xIns xg 62 19 = some (.iconst 0) := by decide +kernel
theorem i62_20 : xIns xg 62 20 = some (.iastore) := by decide +kernel
theorem i62_21 : xIns xg 62 21 = some (.aload_n 0) := by decide +kernel
theorem i62_22 : xIns xg 62 22 = some (.getfield 24) := by decide +kernel
theorem f62_24 : xFld xg 62 24 = some (4, 4) := by decide +kernel
theorem i62_25 : xIns xg 62 25 = some (.iload_n 1) := by decide +kernel
theorem i62_26 : xIns xg 62 26 = some (.iconst 0) := by decide +kernel
theorem i62_27 : xIns xg 62 27 = some (.iastore) := by decide +kernel
theorem i62_28 : xIns xg 62 28 = some (.aload_n 0) := by decide +kernel
theorem i62_29 : xIns xg 62 29 = some (.getfield 30) := by decide +kernel
theorem f62_30 : xFld xg 62 30 = some (4, 6) := by decide +kernel
theorem i62_32 : xIns xg 62 32 = some (.iload_n 1) := by decide +kernel
theorem i62_33 : xIns xg 62 33 = some (.iconst 0) := by decide +kernel
theorem i62_34 : xIns xg 62 34 = some (.iastore) := by decide +kernel
theorem i62_35 : xIns xg 62 35 = some (.return_) := by decide +kernel
theorem i27_40 : xIns xg 27 40 = some (.iload_n 2) := by decide +kernel
theorem i27_41 : xIns xg 27 41 = some (.ifCond .ge 8) := by decide +kernel
theorem i27_44 : xIns xg 27 44 = some (.aload_n 0) := by decide +kernel
theorem i27_45 : xIns xg 27 45 = some (.invokevirtual 58) := by decide +kernel
theorem l27_58 : xMth xg 27 58 = some (0, 22, 1, 1) := by decide +kernel
theorem m22 : (xMet xg 22).2.2 = (1, none) := by decide +kernel
theorem i22_0 : xIns xg 22 0 = some (.aload_n 0) := by decide +kernel
theorem i22_1 : xIns xg 22 1 = some (.getfield 40) := by decide +kernel
theorem f22_40 : xFld xg 22 40 = some (1, 7) := by decide +kernel
theorem i22_4 : xIns xg 22 4 = some (.iconst (-1)) := by decide +kernel
theorem i22_5 : xIns xg 22 5 = some (.if_icmp .ne 16) := by decide +kernel
theorem i22_8 : xIns xg 22 8 = some (.aload_n 0) := by decide +kernel
theorem i22_9 : xIns xg 22 9 = some (.aload_n 0) := by decide +kernel
theorem i22_10 : xIns xg 22 10 = some (.getfield 28) := by decide +kernel
theorem f22_28 : xFld xg 22 28 = some (1, 3) := by decide +kernel
theorem i22_13 : xIns xg 22 13 = some (.aload_n 0) := by decide +kernel
theorem i22_14 : xIns xg 22 14 = some (.getfield 37) := by decide +kernel
theorem f22_37 : xFld xg 22 37 = some (1, 6) := by decide +kernel
theorem i22_17 : xIns xg 22 17 = some (.iaload) := by decide +kernel
theorem i22_18 : xIns xg 22 18 = some (.putfield 40) := by decide +kernel
theorem p22_40 : xPut xg 22 40 = some (1, 7, .int) := by decide +kernel
theorem i22_21 : xIns xg 22 21 = some (.return_) := by decide +kernel
theorem i27_48 : xIns xg 27 48 = some (.return_) := by decide +kernel
theorem i29_41 : xIns xg 29 41 = some (.iload_n 2) := by decide +kernel
theorem i29_42 : xIns xg 29 42 = some (.aload_n 0) := by decide +kernel
theorem i29_43 : xIns xg 29 43 = some (.getfield 14) := by decide +kernel
theorem f29_14 : xFld xg 29 14 = some (1, 0) := by decide +kernel
theorem i29_46 : xIns xg 29 46 = some (.getfield 49) := by decide +kernel
theorem f29_49 : xFld xg 29 49 = some (4, 1) := by decide +kernel
theorem i29_49 : xIns xg 29 49 = some (.iload_n 1) := by decide +kernel
theorem i29_50 : xIns xg 29 50 = some (.iaload) := by decide +kernel
theorem i29_51 : xIns xg 29 51 = some (.invokestatic 52) := by decide +kernel
theorem l29_52 : xMth xg 29 52 = some (1, 3, 1, 0) := by decide +kernel
theorem m3 : (xMet xg 3).2.2 = (1, (some .int)) := by decide +kernel
theorem i3_0 : xIns xg 3 0 = some (.iload_n 0) := by decide +kernel
theorem i3_1 : xIns xg 3 1 = some (.ifCond .eq 13) := by decide +kernel
theorem i3_14 : xIns xg 3 14 = some (.iconst 0) := by decide +kernel
theorem i3_15 : xIns xg 3 15 = some (.ireturn) := by decide +kernel
theorem i29_54 : xIns xg 29 54 = some (.iconst 1) := by decide +kernel
theorem i29_55 : xIns xg 29 55 = some (.isub) := by decide +kernel
theorem i29_56 : xIns xg 29 56 = some (.iadd) := by decide +kernel
theorem i29_57 : xIns xg 29 57 = some (.istore_n 2) := by decide +kernel
theorem i29_58 : xIns xg 29 58 = some (.iinc 1 1) := by decide +kernel
theorem i29_61 : xIns xg 29 61 = some (.goto (-43)) := by decide +kernel
theorem i29_64 : xIns xg 29 64 = some (.iload_n 2) := by decide +kernel
theorem i29_65 : xIns xg 29 65 = some (.ifCond .gt 15) := by decide +kernel
theorem i29_68 : xIns xg 29 68 = some (.aload_n 0) := by decide +kernel
theorem i29_69 : xIns xg 29 69 = some (.getfield 31) := by decide +kernel
theorem f29_31 : xFld xg 29 31 = some (1, 4) := by decide +kernel
theorem i29_72 : xIns xg 29 72 = some (.aload_n 0) := by decide +kernel
theorem i29_73 : xIns xg 29 73 = some (.getfield 37) := by decide +kernel
theorem f29_37 : xFld xg 29 37 = some (1, 6) := by decide +kernel
theorem i29_76 : xIns xg 29 76 = some (.iaload) := by decide +kernel
theorem i29_77 : xIns xg 29 77 = some (.ifCond .eq 7) := by decide +kernel
theorem i29_84 : xIns xg 29 84 = some (.aload_n 0) := by decide +kernel
theorem i29_85 : xIns xg 29 85 = some (.iconst 0) := by decide +kernel
theorem i29_86 : xIns xg 29 86 = some (.putfield 20) := by decide +kernel
theorem p29_20 : xPut xg 29 20 = some (1, 1, .int) := by decide +kernel
theorem i29_89 : xIns xg 29 89 = some (.aload_n 0) := by decide +kernel
theorem i29_90 : xIns xg 29 90 = some (.getfield 40) := by decide +kernel
theorem i29_93 : xIns xg 29 93 = some (.iconst (-1)) := by decide +kernel
theorem i29_94 : xIns xg 29 94 = some (.if_icmp .eq 11) := by decide +kernel
theorem i29_97 : xIns xg 29 97 = some (.bipush (-100)) := by decide +kernel
theorem i29_99 : xIns xg 29 99 = some (.aload_n 0) := by decide +kernel
theorem i29_100 : xIns xg 29 100 = some (.getfield 40) := by decide +kernel
theorem i29_103 : xIns xg 29 103 = some (.isub) := by decide +kernel
theorem i29_104 : xIns xg 29 104 = some (.ireturn) := by decide +kernel
theorem i117_17 : xIns xg 117 17 = some (.istore_n 2) := by decide +kernel
theorem i117_18 : xIns xg 117 18 = some (.iload_n 2) := by decide +kernel
theorem i117_19 : xIns xg 117 19 = some (.ifCond .le 26) := by decide +kernel
theorem i117_45 : xIns xg 117 45 = some (.iload_n 2) := by decide +kernel
theorem i117_46 : xIns xg 117 46 = some (.ireturn) := by decide +kernel
theorem i84_0 : xIns xg 84 0 = some (.iload_n 1) := by decide +kernel
theorem i84_1 : xIns xg 84 1 = some (.invokestatic 86) := by decide +kernel
theorem l84_86 : xMth xg 84 86 = some (1, 98, 1, 0) := by decide +kernel
theorem i84_4 : xIns xg 84 4 = some (.ifCond .ne 6) := by decide +kernel
theorem i84_7 : xIns xg 84 7 = some (.bipush (-2)) := by decide +kernel
theorem i84_9 : xIns xg 84 9 = some (.ireturn) := by decide +kernel
theorem m84 : (xMet xg 84).2.2 = (3, (some .int)) := by decide +kernel
theorem i84_10 : xIns xg 84 10 = some (.aload_n 0) := by decide +kernel
theorem i84_11 : xIns xg 84 11 = some (.getfield 28) := by decide +kernel
theorem f84_28 : xFld xg 84 28 = some (6, 2) := by decide +kernel
theorem i84_14 : xIns xg 84 14 = some (.getfield 104) := by decide +kernel
theorem f84_104 : xFld xg 84 104 = some (4, 0) := by decide +kernel
theorem i84_17 : xIns xg 84 17 = some (.iload_n 1) := by decide +kernel
theorem i84_18 : xIns xg 84 18 = some (.iaload) := by decide +kernel
theorem i84_19 : xIns xg 84 19 = some (.istore_n 2) := by decide +kernel
theorem i84_20 : xIns xg 84 20 = some (.aload_n 0) := by decide +kernel
theorem i84_21 : xIns xg 84 21 = some (.getfield 28) := by decide +kernel
theorem i84_24 : xIns xg 84 24 = some (.getfield 104) := by decide +kernel
theorem i84_27 : xIns xg 84 27 = some (.iload_n 1) := by decide +kernel
theorem i84_28 : xIns xg 84 28 = some (.iconst 0) := by decide +kernel
theorem i84_29 : xIns xg 84 29 = some (.iastore) := by decide +kernel
theorem i84_30 : xIns xg 84 30 = some (.aload_n 0) := by decide +kernel
theorem i84_31 : xIns xg 84 31 = some (.getfield 35) := by decide +kernel
theorem f84_35 : xFld xg 84 35 = some (6, 3) := by decide +kernel
theorem i84_34 : xIns xg 84 34 = some (.invokevirtual 101) := by decide +kernel
theorem l84_101 : xMth xg 84 101 = some (0, 77, 1, 5) := by decide +kernel
theorem m77 : (xMet xg 77).2.2 = (2, none) := by decide +kernel
theorem i77_0 : xIns xg 77 0 = some (.iconst 0) := by decide +kernel
theorem i77_1 : xIns xg 77 1 = some (.istore_n 1) := by decide +kernel
theorem i77_2 : xIns xg 77 2 = some (.iload_n 1) := by decide +kernel
theorem i77_3 : xIns xg 77 3 = some (.aload_n 0) := by decide +kernel
theorem i77_4 : xIns xg 77 4 = some (.getfield 9) := by decide +kernel
theorem f77_9 : xFld xg 77 9 = some (5, 11) := by decide +kernel
theorem i77_7 : xIns xg 77 7 = some (.if_icmp .ge 19) := by decide +kernel
theorem i77_26 : xIns xg 77 26 = some (.aload_n 0) := by decide +kernel
theorem i77_27 : xIns xg 77 27 = some (.iconst 0) := by decide +kernel
theorem i77_28 : xIns xg 77 28 = some (.putfield 9) := by decide +kernel
theorem p77_9 : xPut xg 77 9 = some (5, 11, .int) := by decide +kernel
theorem i77_31 : xIns xg 77 31 = some (.return_) := by decide +kernel
theorem i84_37 : xIns xg 84 37 = some (.iload_n 2) := by decide +kernel
theorem i84_38 : xIns xg 84 38 = some (.ireturn) := by decide +kernel
theorem i105_0 : xIns xg 105 0 = some (.iload_n 1) := by decide +kernel
theorem i105_1 : xIns xg 105 1 = some (.invokestatic 86) := by decide +kernel
theorem l105_86 : xMth xg 105 86 = some (1, 98, 1, 0) := by decide +kernel
theorem i105_4 : xIns xg 105 4 = some (.ifCond .eq 12) := by decide +kernel
theorem i105_16 : xIns xg 105 16 = some (.bipush (-2)) := by decide +kernel
theorem i105_18 : xIns xg 105 18 = some (.ireturn) := by decide +kernel
theorem m105 : (xMet xg 105).2.2 = (5, (some .int)) := by decide +kernel
theorem i105_7 : xIns xg 105 7 = some (.iload_n 3) := by decide +kernel
theorem i105_8 : xIns xg 105 8 = some (.ifCond .lt 8) := by decide +kernel
theorem i105_11 : xIns xg 105 11 = some (.iload_n 3) := by decide +kernel
theorem i105_12 : xIns xg 105 12 = some (.iconst 5) := by decide +kernel
theorem i105_13 : xIns xg 105 13 = some (.if_icmp .le 6) := by decide +kernel
theorem i105_19 : xIns xg 105 19 = some (.aload_n 0) := by decide +kernel
theorem i105_20 : xIns xg 105 20 = some (.iload_n 1) := by decide +kernel
theorem i105_21 : xIns xg 105 21 = some (.invokevirtual 108) := by decide +kernel
theorem l105_108 : xMth xg 105 108 = some (0, 95, 2, 6) := by decide +kernel
theorem m95 : (xMet xg 95).2.2 = (2, (some .boolean)) := by decide +kernel
theorem i95_0 : xIns xg 95 0 = some (.aload_n 0) := by decide +kernel
theorem i95_1 : xIns xg 95 1 = some (.getfield 28) := by decide +kernel
theorem f95_28 : xFld xg 95 28 = some (6, 2) := by decide +kernel
theorem i95_4 : xIns xg 95 4 = some (.getfield 104) := by decide +kernel
theorem f95_104 : xFld xg 95 104 = some (4, 0) := by decide +kernel
theorem i95_7 : xIns xg 95 7 = some (.iload_n 1) := by decide +kernel
theorem i95_8 : xIns xg 95 8 = some (.iaload) := by decide +kernel
theorem i95_9 : xIns xg 95 9 = some (.ifCond .ne 7) := by decide +kernel
theorem i95_12 : xIns xg 95 12 = some (.iconst 1) := by decide +kernel
theorem i95_13 : xIns xg 95 13 = some (.goto 4) := by decide +kernel
theorem i95_17 : xIns xg 95 17 = some (.ireturn) := by decide +kernel
theorem i105_24 : xIns xg 105 24 = some (.ifCond .eq 6) := by decide +kernel
theorem i105_27 : xIns xg 105 27 = some (.bipush (-3)) := by decide +kernel
theorem i105_29 : xIns xg 105 29 = some (.ireturn) := by decide +kernel
theorem i104_0 : xIns xg 104 0 = some (.aload_n 0) := by decide +kernel
theorem i104_1 : xIns xg 104 1 = some (.iload_n 1) := by decide +kernel
theorem i104_2 : xIns xg 104 2 = some (.iload_n 2) := by decide +kernel
theorem i104_3 : xIns xg 104 3 = some (.invokevirtual 111) := by decide +kernel
theorem l104_111 : xMth xg 104 111 = some (0, 90, 3, 6) := by decide +kernel
theorem m90 : (xMet xg 90).2.2 = (3, (some .boolean)) := by decide +kernel
theorem i90_0 : xIns xg 90 0 = some (.iload_n 1) := by decide +kernel
theorem i90_1 : xIns xg 90 1 = some (.invokestatic 86) := by decide +kernel
theorem l90_86 : xMth xg 90 86 = some (1, 98, 1, 0) := by decide +kernel
theorem i90_4 : xIns xg 90 4 = some (.ifCond .eq 24) := by decide +kernel
theorem i90_28 : xIns xg 90 28 = some (.iconst 0) := by decide +kernel
theorem i90_29 : xIns xg 90 29 = some (.ireturn) := by decide +kernel
theorem i104_6 : xIns xg 104 6 = some (.ifCond .ne 7) := by decide +kernel
theorem i104_9 : xIns xg 104 9 = some (.ldc2_w 133) := by decide +kernel
theorem c104_133 : xCon xg 104 133 = some (.long (-4611686018427387904)) := by decide +kernel
theorem i104_12 : xIns xg 104 12 = some (.lreturn) := by decide +kernel
theorem m104 : (xMet xg 104).2.2 = (4, (some .long)) := by decide +kernel
theorem i90_7 : xIns xg 90 7 = some (.iload_n 2) := by decide +kernel
theorem i90_8 : xIns xg 90 8 = some (.ifCond .lt 20) := by decide +kernel
theorem i90_11 : xIns xg 90 11 = some (.iload_n 2) := by decide +kernel
theorem i90_12 : xIns xg 90 12 = some (.aload_n 0) := by decide +kernel
theorem i90_13 : xIns xg 90 13 = some (.getfield 28) := by decide +kernel
theorem f90_28 : xFld xg 90 28 = some (6, 2) := by decide +kernel
theorem i90_16 : xIns xg 90 16 = some (.getfield 104) := by decide +kernel
theorem f90_104 : xFld xg 90 104 = some (4, 0) := by decide +kernel
theorem i90_19 : xIns xg 90 19 = some (.iload_n 1) := by decide +kernel
theorem i90_20 : xIns xg 90 20 = some (.iaload) := by decide +kernel
theorem i90_21 : xIns xg 90 21 = some (.if_icmp .ge 7) := by decide +kernel
theorem i85_0 : xIns xg 85 0 = some (.aload_n 0) := by decide +kernel
theorem i85_1 : xIns xg 85 1 = some (.iload_n 1) := by decide +kernel
theorem i85_2 : xIns xg 85 2 = some (.iload_n 2) := by decide +kernel
theorem i85_3 : xIns xg 85 3 = some (.invokevirtual 111) := by decide +kernel
theorem l85_111 : xMth xg 85 111 = some (0, 90, 3, 6) := by decide +kernel
theorem i85_6 : xIns xg 85 6 = some (.ifCond .ne 7) := by decide +kernel
theorem i85_9 : xIns xg 85 9 = some (.ldc2_w 133) := by decide +kernel
theorem c85_133 : xCon xg 85 133 = some (.long (-4611686018427387904)) := by decide +kernel
theorem i85_12 : xIns xg 85 12 = some (.lreturn) := by decide +kernel
theorem m85 : (xMet xg 85).2.2 = (5, (some .long)) := by decide +kernel
theorem i119_0 : xIns xg 119 0 = some (.iload_n 1) := by decide +kernel
theorem i119_1 : xIns xg 119 1 = some (.invokestatic 86) := by decide +kernel
theorem l119_86 : xMth xg 119 86 = some (1, 98, 1, 0) := by decide +kernel
theorem i119_4 : xIns xg 119 4 = some (.ifCond .eq 17) := by decide +kernel
theorem i119_21 : xIns xg 119 21 = some (.bipush (-2)) := by decide +kernel
theorem i119_23 : xIns xg 119 23 = some (.ireturn) := by decide +kernel
theorem m119 : (xMet xg 119).2.2 = (6, (some .int)) := by decide +kernel
theorem i119_7 : xIns xg 119 7 = some (.iload_n 3) := by decide +kernel
theorem i119_8 : xIns xg 119 8 = some (.sipush (-9999)) := by decide +kernel
theorem i119_11 : xIns xg 119 11 = some (.if_icmp .lt 10) := by decide +kernel
theorem i119_14 : xIns xg 119 14 = some (.iload_n 3) := by decide +kernel
theorem i119_15 : xIns xg 119 15 = some (.sipush 9999) := by decide +kernel
theorem i119_18 : xIns xg 119 18 = some (.if_icmp .le 6) := by decide +kernel
theorem i119_24 : xIns xg 119 24 = some (.aload_n 0) := by decide +kernel
theorem i119_25 : xIns xg 119 25 = some (.iload_n 1) := by decide +kernel
theorem i119_26 : xIns xg 119 26 = some (.invokevirtual 108) := by decide +kernel
theorem l119_108 : xMth xg 119 108 = some (0, 95, 2, 6) := by decide +kernel
theorem i119_29 : xIns xg 119 29 = some (.ifCond .eq 6) := by decide +kernel
theorem i119_32 : xIns xg 119 32 = some (.bipush (-3)) := by decide +kernel
theorem i119_34 : xIns xg 119 34 = some (.ireturn) := by decide +kernel
theorem i113_0 : xIns xg 113 0 = some (.iload_n 1) := by decide +kernel
theorem i113_1 : xIns xg 113 1 = some (.invokestatic 86) := by decide +kernel
theorem l113_86 : xMth xg 113 86 = some (1, 98, 1, 0) := by decide +kernel
theorem i113_4 : xIns xg 113 4 = some (.ifCond .eq 12) := by decide +kernel
theorem i113_16 : xIns xg 113 16 = some (.bipush (-2)) := by decide +kernel
theorem i113_18 : xIns xg 113 18 = some (.ireturn) := by decide +kernel
theorem m113 : (xMet xg 113).2.2 = (5, (some .int)) := by decide +kernel
theorem i113_7 : xIns xg 113 7 = some (.iload_n 3) := by decide +kernel
theorem i113_8 : xIns xg 113 8 = some (.ifCond .lt 8) := by decide +kernel
theorem i113_11 : xIns xg 113 11 = some (.iload_n 3) := by decide +kernel
theorem i113_12 : xIns xg 113 12 = some (.iconst 2) := by decide +kernel
theorem i113_13 : xIns xg 113 13 = some (.if_icmp .le 6) := by decide +kernel
theorem i113_19 : xIns xg 113 19 = some (.aload_n 0) := by decide +kernel
theorem i113_20 : xIns xg 113 20 = some (.iload_n 1) := by decide +kernel
theorem i113_21 : xIns xg 113 21 = some (.invokevirtual 108) := by decide +kernel
theorem l113_108 : xMth xg 113 108 = some (0, 95, 2, 6) := by decide +kernel
theorem i113_24 : xIns xg 113 24 = some (.ifCond .eq 6) := by decide +kernel
theorem i113_27 : xIns xg 113 27 = some (.bipush (-3)) := by decide +kernel
theorem i113_29 : xIns xg 113 29 = some (.ireturn) := by decide +kernel
theorem i106_0 : xIns xg 106 0 = some (.iload_n 1) := by decide +kernel
theorem i106_1 : xIns xg 106 1 = some (.invokestatic 86) := by decide +kernel
theorem l106_86 : xMth xg 106 86 = some (1, 98, 1, 0) := by decide +kernel
theorem i106_4 : xIns xg 106 4 = some (.ifCond .ne 6) := by decide +kernel
theorem i106_7 : xIns xg 106 7 = some (.bipush (-2)) := by decide +kernel
theorem i106_9 : xIns xg 106 9 = some (.ireturn) := by decide +kernel
theorem m106 : (xMet xg 106).2.2 = (3, (some .int)) := by decide +kernel
theorem i106_10 : xIns xg 106 10 = some (.aload_n 0) := by decide +kernel
theorem i106_11 : xIns xg 106 11 = some (.iload_n 1) := by decide +kernel
theorem i106_12 : xIns xg 106 12 = some (.invokevirtual 108) := by decide +kernel
theorem l106_108 : xMth xg 106 108 = some (0, 95, 2, 6) := by decide +kernel
theorem i106_15 : xIns xg 106 15 = some (.ifCond .eq 6) := by decide +kernel
theorem i106_18 : xIns xg 106 18 = some (.bipush (-3)) := by decide +kernel
theorem i106_20 : xIns xg 106 20 = some (.ireturn) := by decide +kernel
def xpre (f : Nat → xE) (t : xH) : xH := f 0 :: f 1 :: f 2 :: f 3 :: f 4 :: f 5 :: f 6 :: f 7 :: f 8 :: f 9 :: f 10 :: f 11 :: f 12 :: f 13 :: f 14 :: f 15 :: f 16 :: f 17 :: f 18 :: f 19 :: f 20 :: f 21 :: f 22 :: f 23 :: f 24 :: f 25 :: f 26 :: f 27 :: f 28 :: f 29 :: f 30 :: f 31 :: f 32 :: f 33 :: f 34 :: f 35 :: f 36 :: f 37 :: f 38 :: f 39 :: f 40 :: f 41 :: f 42 :: f 43 :: f 44 :: f 45 :: f 46 :: f 47 :: f 48 :: f 49 :: f 50 :: f 51 :: f 52 :: f 53 :: f 54 :: f 55 :: f 56 :: f 57 :: f 58 :: f 59 :: f 60 :: f 61 :: f 62 :: f 63 :: f 64 :: f 65 :: f 66 :: f 67 :: f 68 :: f 69 :: f 70 :: f 71 :: f 72 :: f 73 :: f 74 :: f 75 :: f 76 :: t
theorem xpre_of (h t : xH) (e : h = xpre (fun i => h.getD i (xI 0)) t) : ∃ f, h = xpre f t := ⟨_, e⟩
def hC (t : xH) : xH := .inr (6, [.ref 1, .ref 15, .ref 17, .ref 26, .ref 38, .ref 50, .ref 51, .ref 55, .ref 56, .ref 65, .int 99, .int 0, .int 99, .int 0]) :: .inr (1, [.ref 2, .int 0, .ref 11, .ref 12, .ref 13, .ref 14, .int 0, .int (-1)]) :: .inr (4, [.ref 3, .ref 4, .ref 5, .ref 6, .ref 7, .ref 8, .ref 9, .ref 10]) :: (xI 1) :: (xI 24) :: (xI 24) :: (xI 24) :: (xI 24) :: (xI 24) :: (xI 24) :: (xJ 192) :: (xI 120) :: (xI 121) :: (xI 121) :: (xI 121) :: .inr (0, [.ref 16, .int 0]) :: (xI 1024) :: .inr (4, [.ref 18, .ref 19, .ref 20, .ref 21, .ref 22, .ref 23, .ref 24, .ref 25]) :: (xI 8) :: (xI 192) :: (xI 192) :: (xI 192) :: (xI 192) :: (xI 192) :: (xI 192) :: (xJ 1536) :: .inr (5, [.ref 27, .ref 28, .ref 29, .ref 30, .ref 31, .ref 32, .ref 33, .ref 34, .ref 35, .ref 36, .ref 37, .int 0]) :: (xI 192) :: (xI 192) :: .inl (.int, 192, .inl xOne) :: (xZ 192) :: (xI 192) :: (xI 192) :: (xB 12288) :: (xJ 12288) :: (xB 12288) :: (xZ 192) :: (xI 192) :: .inr (5, [.ref 39, .ref 40, .ref 41, .ref 42, .ref 43, .ref 44, .ref 45, .ref 46, .ref 47, .ref 48, .ref 49, .int 0]) :: (xI 192) :: (xI 192) :: .inl (.int, 192, .inl xOne) :: (xZ 192) :: (xI 192) :: (xI 192) :: (xB 12288) :: (xJ 12288) :: (xB 12288) :: (xZ 192) :: (xI 192) :: .inr (3, [.ref 17, .ref 26, .int 0, .int 0, .long 0]) :: .inr (2, [.ref 52, .ref 53, .ref 54]) :: .inl (.int, 4, .inl (upd (upd (upd (upd (fun _ => 0) 0 (-1)) 1 (-1)) 2 (-1)) 3 (-1))) :: (xI 4) :: (xJ 160) :: (xJ 16) :: .inr (4, [.ref 57, .ref 58, .ref 59, .ref 60, .ref 61, .ref 62, .ref 63, .ref 64]) :: (xI 8) :: (xI 192) :: (xI 192) :: (xI 192) :: (xI 192) :: (xI 192) :: (xI 192) :: (xJ 1536) :: .inr (5, [.ref 66, .ref 67, .ref 68, .ref 69, .ref 70, .ref 71, .ref 72, .ref 73, .ref 74, .ref 75, .ref 76, .int 0]) :: (xI 192) :: (xI 192) :: .inl (.int, 192, .inl xOne) :: (xZ 192) :: (xI 192) :: (xI 192) :: (xB 12288) :: (xJ 12288) :: (xB 12288) :: (xZ 192) :: (xI 192) :: t
def mC : xH := [.inr (7, [.int 0, .ref 78, .ref 79, .ref 80, .ref 81, .ref 82, .ref 83, .ref 84, .ref 85, .int 99, .ref 86, .ref 87, .ref 88, .ref 89, .ref 90, .ref 91, .ref 92, .ref 93, .ref 94, .int 0, .int 0, .int 0, .int 0, .int 0, .int 0, .int 0, .int 0, .ref 95, .ref 96, .ref 97, .ref 98, .ref 99, .ref 100, .ref 101, .ref 102, .int 0, .int 0, .int 0, .long 0, .int 0, .ref 103, .ref 104, .ref 105, .ref 106, .ref 107, .ref 108, .ref 109, .ref 110, .ref 111, .ref 112, .ref 113, .ref 114, .ref 115, .ref 116, .ref 117, .ref 118, .ref 119, .ref 120, .ref 121, .ref 122, .ref 123, .ref 124, .ref 125, .int 0, .int 0, .ref 126, .ref 127, .ref 128, .ref 129]), (xI 8), (xI 192), (xI 192), (xI 192), (xJ 192), (xJ 192), (xI 192), (xJ 1536), (xI 192), (xI 192), (xZ 192), (xI 192), (xI 192), (xI 12288), (xJ 12288), (xI 12288), (xI 120), (xI 24), (xI 24), (xI 24), (xJ 24), (xJ 24), (xI 24), (xJ 192), (xI 4096), (xI 192), (xI 192), (xI 192), (xI 192), (xI 12288), (xJ 12288), (xI 12288), (xJ 16), (xI 8), (xI 192), (xI 192), (xI 192), (xJ 192), (xJ 192), (xI 192), (xJ 1536), (xI 192), (xI 192), (xI 192), (xI 192), (xI 12288), (xJ 12288), (xI 12288), (xZ 4), (xI 4), (xI 4), (xJ 160)]
def hM (f : Nat → xE) : xH := f 0 :: f 1 :: f 2 :: f 3 :: f 4 :: f 5 :: f 6 :: f 7 :: f 8 :: f 9 :: f 10 :: f 11 :: f 12 :: f 13 :: f 14 :: f 15 :: f 16 :: f 17 :: f 18 :: f 19 :: f 20 :: f 21 :: f 22 :: f 23 :: f 24 :: f 25 :: f 26 :: f 27 :: f 28 :: f 29 :: f 30 :: f 31 :: f 32 :: f 33 :: f 34 :: f 35 :: f 36 :: f 37 :: f 38 :: f 39 :: f 40 :: f 41 :: f 42 :: f 43 :: f 44 :: f 45 :: f 46 :: f 47 :: f 48 :: f 49 :: f 50 :: f 51 :: f 52 :: f 53 :: f 54 :: f 55 :: f 56 :: f 57 :: f 58 :: f 59 :: f 60 :: f 61 :: f 62 :: f 63 :: f 64 :: f 65 :: f 66 :: f 67 :: f 68 :: f 69 :: f 70 :: f 71 :: f 72 :: f 73 :: f 74 :: f 75 :: f 76 :: .inr (7, [.int 0, .ref 78, .ref 79, .ref 80, .ref 81, .ref 82, .ref 83, .ref 84, .ref 85, .int 99, .ref 86, .ref 87, .ref 88, .ref 89, .ref 90, .ref 91, .ref 92, .ref 93, .ref 94, .int 0, .int 0, .int 0, .int 0, .int 0, .int 0, .int 0, .int 0, .ref 95, .ref 96, .ref 97, .ref 98, .ref 99, .ref 100, .ref 101, .ref 102, .int 0, .int 0, .int 0, .long 0, .int 0, .ref 103, .ref 104, .ref 105, .ref 106, .ref 107, .ref 108, .ref 109, .ref 110, .ref 111, .ref 112, .ref 113, .ref 114, .ref 115, .ref 116, .ref 117, .ref 118, .ref 119, .ref 120, .ref 121, .ref 122, .ref 123, .ref 124, .ref 125, .int 0, .int 0, .ref 126, .ref 127, .ref 128, .ref 129]) :: (xI 8) :: (xI 192) :: (xI 192) :: (xI 192) :: (xJ 192) :: (xJ 192) :: (xI 192) :: (xJ 1536) :: (xI 192) :: (xI 192) :: (xZ 192) :: (xI 192) :: (xI 192) :: (xI 12288) :: (xJ 12288) :: (xI 12288) :: (xI 120) :: (xI 24) :: (xI 24) :: (xI 24) :: (xJ 24) :: (xJ 24) :: (xI 24) :: (xJ 192) :: (xI 4096) :: (xI 192) :: (xI 192) :: (xI 192) :: (xI 192) :: (xI 12288) :: (xJ 12288) :: (xI 12288) :: (xJ 16) :: (xI 8) :: (xI 192) :: (xI 192) :: (xI 192) :: (xJ 192) :: (xJ 192) :: (xI 192) :: (xJ 1536) :: (xI 192) :: (xI 192) :: (xI 192) :: (xI 192) :: (xI 12288) :: (xJ 12288) :: (xI 12288) :: (xZ 4) :: (xI 4) :: (xI 4) :: (xJ 160) :: []
theorem x_sorts {s a b : Int32} (h1 : a ≤ s) (h2 : s ≤ b) (ha : 0 ≤ a.toInt := by decide) (hb : b.toInt < 4 := by decide) : (upd (upd (upd (upd (fun _ => 0) 0 (-1)) 1 (-1)) 2 (-1)) 3 (-1)) s.toNatClampNeg = -1 := by
  obtain ⟨n, h3, h4, h5⟩ := x_cl h1 h2 ha
  rw [h5]
  rw [Int32.le_iff_toInt_le] at h2
  have : n < 4 := by omega
  match n, this with
  | 0, _ => rfl
  | 1, _ => rfl
  | 2, _ => rfl
  | 3, _ => rfl

def sp_feed (a1 : Int32) : Int32 := (if (a1) < 0 then (-2) else (if (a1) ≤ 255 then 1 else (-2)))
set_option maxHeartbeats 4000000 in
set_option maxRecDepth 100000 in
theorem q_feed {sc : xS} {d : Nat} (t : xH) (a1 : Int32) : xT xg sc (d + 12) 86 0 [(0, .ref 0), (1, .int (a1))] [] (hC t) (fun r => r.1 = some (.int (sp_feed a1)) ∧ (∃ f, r.2.1 = xpre f t) ∧ r.2.2 = (0, 0)) := by
  refine wLin 1 i86_0 rfl rfl ?_
  by_cases c1 : (a1) < 0
  ·
    refine wZT 11 i86_1 rfl (decide_eq_true c1) ?_
    refine wKb 13 (-2) i86_11 (by decide) rfl ?_
    refine wRi i86_13 m86 rfl ?_
    refine ⟨congrArg (fun z => some (Value.int z)) ?_, xpre_of _ _ rfl, rfl⟩
    rw [sp_feed, if_pos c1]
  ·
    refine wZF 11 4 i86_1 rfl (decide_eq_false c1) rfl ?_
    refine wLin 5 i86_4 rfl rfl ?_
    refine wKs 8 255 i86_5 (by decide) rfl ?_
    by_cases c2 : (a1) ≤ 255
    ·
      refine wCT 14 i86_8 rfl (decide_eq_true c2) ?_
      refine wLan 15 i86_14 rfl rfl ?_
      refine wGet 18 (.ref 1) i86_15 f86_10 rfl rfl rfl ?_
      refine wLin 19 i86_18 rfl rfl ?_
      refine jCall 22 [.ref 1, .int (a1)] [] [(0, .ref 1), (1, .int (a1))] i86_19 rfl (xlk0 l86_82) (Or.inl rfl) m16 rfl rfl (Nat.le_of_ble_eq_true rfl) (Nat.le_of_ble_eq_true rfl) (Nat.le_of_ble_eq_true rfl) rfl rfl rfl ?_
      refine wLan 1 i16_0 rfl rfl ?_
      refine wGet 4 (.int 0) i16_1 f16_20 rfl rfl rfl ?_
      refine wKb 6 120 i16_4 (by decide) rfl ?_
      refine wCT 12 i16_6 rfl (by decide) ?_
      refine wLan 13 i16_12 rfl rfl ?_
      refine wGet 16 (.ref 11) i16_13 f16_24 rfl rfl rfl ?_
      refine wLan 17 i16_16 rfl rfl ?_
      refine wGet 20 (.int 0) i16_17 f16_20 rfl rfl rfl ?_
      refine wLin 21 i16_20 rfl rfl ?_
      refine wIas 22 i16_21 rfl (by decide) rfl ?_
      refine wLan 23 i16_22 rfl rfl ?_
      refine wD 24 i16_23 rfl rfl rfl ?_
      refine wGet 27 (.int 0) i16_24 f16_20 rfl rfl rfl ?_
      refine wK 28 1 i16_27 (by decide) rfl ?_
      refine wA 29 i16_28 rfl rfl rfl ?_
      refine tTop (v := 1) (by decide) ?_
      refine wPut 32 i16_29 p16_20 rfl (by decide) rfl rfl rfl ?_
      refine wLan 33 i16_32 rfl rfl ?_
      refine wGet 36 (.int 1) i16_33 f16_20 rfl rfl rfl ?_
      refine jRi i16_36 m16 rfl ?_
      refine wRi i86_22 m86 rfl ?_
      refine ⟨congrArg (fun z => some (Value.int z)) ?_, xpre_of _ _ rfl, rfl⟩
      rw [sp_feed, if_neg c1, if_pos c2]
    ·
      refine wCF 14 11 i86_8 rfl (decide_eq_false c2) rfl ?_
      refine wKb 13 (-2) i86_11 (by decide) rfl ?_
      refine wRi i86_13 m86 rfl ?_
      refine ⟨congrArg (fun z => some (Value.int z)) ?_, xpre_of _ _ rfl, rfl⟩
      rw [sp_feed, if_neg c1, if_neg c2]
def sp_text (a1 : Int32) : Int32 := (if (a1) < 0 then (-2) else (if 8 ≤ (a1) then (-2) else (-100)))
set_option maxHeartbeats 4000000 in
set_option maxRecDepth 100000 in
theorem q_text {sc : xS} {d : Nat} (t : xH) (a1 : Int32) : xT xg sc (d + 12) 117 0 [(0, .ref 0), (1, .int (a1))] [] (hC t) (fun r => r.1 = some (.int (sp_text a1)) ∧ (∃ f, r.2.1 = xpre f t) ∧ r.2.2 = (0, 0)) := by
  refine wLin 1 i117_0 rfl rfl ?_
  refine jCall 4 [.int (a1)] [] [(0, .int (a1))] i117_1 rfl (xlk1 l117_86) (Or.inr (Or.inl rfl)) m98 rfl rfl (Nat.le_of_ble_eq_true rfl) (Nat.le_of_ble_eq_true rfl) (Nat.le_of_ble_eq_true rfl) rfl rfl rfl ?_
  refine wLin 1 i98_0 rfl rfl ?_
  by_cases c1 : (a1) < 0
  ·
    refine wZT 14 i98_1 rfl (decide_eq_true c1) ?_
    refine wK 15 0 i98_14 (by decide) rfl ?_
    refine jRi i98_15 m98 (by decide) ?_
    refine wZF 10 7 i117_4 rfl (by decide) rfl ?_
    refine wKb 9 (-2) i117_7 (by decide) rfl ?_
    refine wRi i117_9 m117 rfl ?_
    refine ⟨congrArg (fun z => some (Value.int z)) ?_, xpre_of _ _ rfl, rfl⟩
    rw [sp_text, if_pos c1]
  ·
    refine wZF 14 4 i98_1 rfl (decide_eq_false c1) rfl ?_
    refine wLin 5 i98_4 rfl rfl ?_
    refine wKb 7 8 i98_5 (by decide) rfl ?_
    by_cases c2 : 8 ≤ (a1)
    ·
      refine wCT 14 i98_7 rfl (decide_eq_true c2) ?_
      refine wK 15 0 i98_14 (by decide) rfl ?_
      refine jRi i98_15 m98 (by decide) ?_
      refine wZF 10 7 i117_4 rfl (by decide) rfl ?_
      refine wKb 9 (-2) i117_7 (by decide) rfl ?_
      refine wRi i117_9 m117 rfl ?_
      refine ⟨congrArg (fun z => some (Value.int z)) ?_, xpre_of _ _ rfl, rfl⟩
      rw [sp_text, if_neg c1, if_pos c2]
    ·
      refine wCF 14 10 i98_7 rfl (decide_eq_false c2) rfl ?_
      refine wK 11 1 i98_10 (by decide) rfl ?_
      refine wGo 15 i98_11 rfl ?_
      refine jRi i98_15 m98 (by decide) ?_
      refine wZT 10 i117_4 rfl (by decide) ?_
      refine wLan 11 i117_10 rfl rfl ?_
      refine wGet 14 (.ref 1) i117_11 f117_10 rfl rfl rfl ?_
      refine jCall 17 [.ref 1] [] [(0, .ref 1)] i117_14 rfl (xlk0 l117_90) (Or.inl rfl) m29 rfl rfl (Nat.le_of_ble_eq_true rfl) (Nat.le_of_ble_eq_true rfl) (Nat.le_of_ble_eq_true rfl) rfl rfl rfl ?_
      refine wLan 1 i29_0 rfl rfl ?_
      refine jCall 4 [.ref 1] [] [(0, .ref 1)] i29_1 rfl (xlk0 l29_43) (Or.inl rfl) m31 rfl rfl (Nat.le_of_ble_eq_true rfl) (Nat.le_of_ble_eq_true rfl) (Nat.le_of_ble_eq_true rfl) rfl rfl rfl ?_
      refine wK 1 0 i31_0 (by decide) rfl ?_
      refine wSin 2 [(1, .int 0), (0, .ref 1)] i31_1 m31 (by decide) rfl rfl ?_
      refine wK 3 0 i31_2 (by decide) rfl ?_
      refine wSin 4 [(2, .int 0), (1, .int 0), (0, .ref 1)] i31_3 m31 (by decide) rfl rfl ?_
      refine wK 5 0 i31_4 (by decide) rfl ?_
      refine wSin 6 [(3, .int 0), (2, .int 0), (1, .int 0), (0, .ref 1)] i31_5 m31 (by decide) rfl rfl ?_
      refine wLin 7 i31_6 rfl rfl ?_
      refine wLan 8 i31_7 rfl rfl ?_
      refine wGet 11 (.int 0) i31_8 f31_20 rfl rfl rfl ?_
      refine wCT 148 i31_11 rfl (by decide) ?_
      refine wLan 149 i31_148 rfl rfl ?_
      refine wGet 152 (.ref 12) i31_149 f31_28 rfl rfl rfl ?_
      refine wLin 153 i31_152 rfl rfl ?_
      refine wLan 154 i31_153 rfl rfl ?_
      refine wGet 157 (.int 0) i31_154 f31_20 rfl rfl rfl ?_
      refine wIasS 158 i31_157 rfl (by decide) rfl rfl ?_
      refine wLan 159 i31_158 rfl rfl ?_
      refine wGet 162 (.ref 13) i31_159 f31_31 rfl rfl rfl ?_
      refine wLin 163 i31_162 rfl rfl ?_
      refine wK 164 0 i31_163 (by decide) rfl ?_
      refine wIasS 165 i31_164 rfl (by decide) rfl rfl ?_
      refine wLan 166 i31_165 rfl rfl ?_
      refine wGet 169 (.ref 14) i31_166 f31_34 rfl rfl rfl ?_
      refine wLin 170 i31_169 rfl rfl ?_
      refine wK 171 0 i31_170 (by decide) rfl ?_
      refine wIasS 172 i31_171 rfl (by decide) rfl rfl ?_
      refine jR0 i31_172 m31 ?_
      refine wLan 5 i29_4 rfl rfl ?_
      refine wK 6 0 i29_5 (by decide) rfl ?_
      refine wPutS 9 i29_6 p29_37 rfl rfl rfl rfl rfl ?_
      refine wLan 10 i29_9 rfl rfl ?_
      refine wK 11 (-1) i29_10 (by decide) rfl ?_
      refine wPutS 14 i29_11 p29_40 rfl rfl rfl rfl rfl ?_
      refine wK 15 0 i29_14 (by decide) rfl ?_
      refine wSin 16 [(1, .int 0), (0, .ref 1)] i29_15 m29 (by decide) rfl rfl ?_
      refine wK 17 1 i29_16 (by decide) rfl ?_
      refine wSin 18 [(2, .int 1), (1, .int 0), (0, .ref 1)] i29_17 m29 (by decide) rfl rfl ?_
      refine wLin 19 i29_18 rfl rfl ?_
      refine wKb 21 24 i29_19 (by decide) rfl ?_
      refine wCF 64 24 i29_21 rfl (by decide) rfl ?_
      refine wLin 25 i29_24 rfl rfl ?_
      refine wZF 64 28 i29_25 rfl (by decide) rfl ?_
      refine wLan 29 i29_28 rfl rfl ?_
      refine wGet 32 (.int (-1)) i29_29 f29_40 rfl rfl rfl ?_
      refine wK 33 (-1) i29_32 (by decide) rfl ?_
      refine wCF 64 36 i29_33 rfl (by decide) rfl ?_
      refine wLan 37 i29_36 rfl rfl ?_
      refine wLin 38 i29_37 rfl rfl ?_
      refine jCall 41 [.ref 1, .int 0] [] [(0, .ref 1), (1, .int 0)] i29_38 rfl (xlk0 l29_46) (Or.inl rfl) m27 rfl rfl (Nat.le_of_ble_eq_true rfl) (Nat.le_of_ble_eq_true rfl) (Nat.le_of_ble_eq_true rfl) rfl rfl rfl ?_
      refine wLan 1 i27_0 rfl rfl ?_
      refine wGet 4 (.ref 13) i27_1 f27_31 rfl rfl rfl ?_
      refine wLan 5 i27_4 rfl rfl ?_
      refine wGet 8 (.int 0) i27_5 f27_37 rfl rfl rfl ?_
      refine wIal 9 i27_8 rfl (by decide) rfl ?_
      refine tTop (v := 0) rfl ?_
      refine wK 10 1 i27_9 (by decide) rfl ?_
      refine wCT 25 i27_10 rfl (by decide) ?_
      refine wK 26 (-1) i27_25 (by decide) rfl ?_
      refine wSin 27 [(2, .int (-1)), (0, .ref 1), (1, .int 0)] i27_26 m27 (by decide) rfl rfl ?_
      refine wLan 28 i27_27 rfl rfl ?_
      refine wGet 31 (.ref 2) i27_28 f27_14 rfl rfl rfl ?_
      refine wLin 32 i27_31 rfl rfl ?_
      refine wLin 33 i27_32 rfl rfl ?_
      refine wK 34 0 i27_33 (by decide) rfl ?_
      refine tMax i27_34 l27_65 (by decide) ?_
      refine tTop (v := 0) (by decide) ?_
      refine jCall 40 [.ref 2, .int 0, .int 0] [] [(0, .ref 2), (1, .int 0), (2, .int 0)] i27_37 rfl (xlk0 l27_71) (Or.inl rfl) m62 rfl rfl (Nat.le_of_ble_eq_true rfl) (Nat.le_of_ble_eq_true rfl) (Nat.le_of_ble_eq_true rfl) rfl rfl rfl ?_
      refine wLan 1 i62_0 rfl rfl ?_
      refine wGet 4 (.ref 4) i62_1 f62_15 rfl rfl rfl ?_
      refine wLin 5 i62_4 rfl rfl ?_
      refine wLin 6 i62_5 rfl rfl ?_
      refine wIasS 7 i62_6 rfl (by decide) rfl rfl ?_
      refine wLan 8 i62_7 rfl rfl ?_
      refine wGet 11 (.ref 5) i62_8 f62_18 rfl rfl rfl ?_
      refine wLin 12 i62_11 rfl rfl ?_
      refine wK 13 0 i62_12 (by decide) rfl ?_
      refine wIasS 14 i62_13 rfl (by decide) rfl rfl ?_
      refine wLan 15 i62_14 rfl rfl ?_
      refine wGet 18 (.ref 6) i62_15 f62_21 rfl rfl rfl ?_
      refine wLin 19 i62_18 rfl rfl ?_
      refine wK 20 0 i62_19 (by decide) rfl ?_
      refine wIasS 21 i62_20 rfl (by decide) rfl rfl ?_
      refine wLan 22 i62_21 rfl rfl ?_
      refine wGet 25 (.ref 7) i62_22 f62_24 rfl rfl rfl ?_
      refine wLin 26 i62_25 rfl rfl ?_
      refine wK 27 0 i62_26 (by decide) rfl ?_
      refine wIasS 28 i62_27 rfl (by decide) rfl rfl ?_
      refine wLan 29 i62_28 rfl rfl ?_
      refine wGet 32 (.ref 9) i62_29 f62_30 rfl rfl rfl ?_
      refine wLin 33 i62_32 rfl rfl ?_
      refine wK 34 0 i62_33 (by decide) rfl ?_
      refine wIasS 35 i62_34 rfl (by decide) rfl rfl ?_
      refine jR0 i62_35 m62 ?_
      refine wLin 41 i27_40 rfl rfl ?_
      refine wZF 49 44 i27_41 rfl (by decide) rfl ?_
      refine wLan 45 i27_44 rfl rfl ?_
      refine jCall 48 [.ref 1] [] [(0, .ref 1)] i27_45 rfl (xlk0 l27_58) (Or.inl rfl) m22 rfl rfl (Nat.le_of_ble_eq_true rfl) (Nat.le_of_ble_eq_true rfl) (Nat.le_of_ble_eq_true rfl) rfl rfl rfl ?_
      refine wLan 1 i22_0 rfl rfl ?_
      refine wGet 4 (.int (-1)) i22_1 f22_40 rfl rfl rfl ?_
      refine wK 5 (-1) i22_4 (by decide) rfl ?_
      refine wCF 21 8 i22_5 rfl (by decide) rfl ?_
      refine wLan 9 i22_8 rfl rfl ?_
      refine wLan 10 i22_9 rfl rfl ?_
      refine wGet 13 (.ref 12) i22_10 f22_28 rfl rfl rfl ?_
      refine wLan 14 i22_13 rfl rfl ?_
      refine wGet 17 (.int 0) i22_14 f22_37 rfl rfl rfl ?_
      refine wIal 18 i22_17 rfl (by decide) rfl ?_
      refine tTop (v := 0) rfl ?_
      refine wPut 21 i22_18 p22_40 rfl (by decide) rfl rfl rfl ?_
      refine jR0 i22_21 m22 ?_
      refine jR0 i27_48 m27 ?_
      refine wLin 42 i29_41 rfl rfl ?_
      refine wLan 43 i29_42 rfl rfl ?_
      refine wGet 46 (.ref 2) i29_43 f29_14 rfl rfl rfl ?_
      refine wGet 49 (.ref 4) i29_46 f29_49 rfl rfl rfl ?_
      refine wLin 50 i29_49 rfl rfl ?_
      refine wIal 51 i29_50 rfl (by decide) rfl ?_
      refine tTop (v := 0) rfl ?_
      refine jCall 54 [.int 0] [.int 1] [(0, .int 0)] i29_51 rfl (xlk1 l29_52) (Or.inr (Or.inl rfl)) m3 rfl rfl (Nat.le_of_ble_eq_true rfl) (Nat.le_of_ble_eq_true rfl) (Nat.le_of_ble_eq_true rfl) rfl rfl rfl ?_
      refine wLin 1 i3_0 rfl rfl ?_
      refine wZT 14 i3_1 rfl (by decide) ?_
      refine wK 15 0 i3_14 (by decide) rfl ?_
      refine jRi i3_15 m3 rfl ?_
      refine wK 55 1 i29_54 (by decide) rfl ?_
      refine wA 56 i29_55 rfl rfl rfl ?_
      refine tTop (v := (-1)) (by decide) ?_
      refine wA 57 i29_56 rfl rfl rfl ?_
      refine tTop (v := 0) (by decide) ?_
      refine wSin 58 [(2, .int 0), (1, .int 0), (0, .ref 1)] i29_57 m29 (by decide) rfl rfl ?_
      refine wInc 61 [(1, .int 1), (2, .int 0), (0, .ref 1)] 1 i29_58 m29 (by decide) rfl (by decide) rfl rfl ?_
      refine wGo 18 i29_61 rfl ?_
      refine wLin 19 i29_18 rfl rfl ?_
      refine wKb 21 24 i29_19 (by decide) rfl ?_
      refine wCF 64 24 i29_21 rfl (by decide) rfl ?_
      refine wLin 25 i29_24 rfl rfl ?_
      refine wZT 64 i29_25 rfl (by decide) ?_
      refine wLin 65 i29_64 rfl rfl ?_
      refine wZF 80 68 i29_65 rfl (by decide) rfl ?_
      refine wLan 69 i29_68 rfl rfl ?_
      refine wGet 72 (.ref 13) i29_69 f29_31 rfl rfl rfl ?_
      refine wLan 73 i29_72 rfl rfl ?_
      refine wGet 76 (.int 0) i29_73 f29_37 rfl rfl rfl ?_
      refine wIal 77 i29_76 rfl (by decide) rfl ?_
      refine tTop (v := 0) rfl ?_
      refine wZT 84 i29_77 rfl (by decide) ?_
      refine wLan 85 i29_84 rfl rfl ?_
      refine wK 86 0 i29_85 (by decide) rfl ?_
      refine wPutS 89 i29_86 p29_20 rfl rfl rfl rfl rfl ?_
      refine wLan 90 i29_89 rfl rfl ?_
      refine wGet 93 (.int 0) i29_90 f29_40 rfl rfl rfl ?_
      refine wK 94 (-1) i29_93 (by decide) rfl ?_
      refine wCF 105 97 i29_94 rfl (by decide) rfl ?_
      refine wKb 99 (-100) i29_97 (by decide) rfl ?_
      refine wLan 100 i29_99 rfl rfl ?_
      refine wGet 103 (.int 0) i29_100 f29_40 rfl rfl rfl ?_
      refine wA 104 i29_103 rfl rfl rfl ?_
      refine tTop (v := (-100)) (by decide) ?_
      refine jRi i29_104 m29 rfl ?_
      refine wSin 18 [(2, .int (-100)), (0, .ref 0), (1, .int (a1))] i117_17 m117 (by decide) rfl rfl ?_
      refine wLin 19 i117_18 rfl rfl ?_
      refine wZT 45 i117_19 rfl (by decide) ?_
      refine wLin 46 i117_45 rfl rfl ?_
      refine wRi i117_46 m117 rfl ?_
      refine ⟨congrArg (fun z => some (Value.int z)) ?_, xpre_of _ _ rfl, rfl⟩
      rw [sp_text, if_neg c1, if_neg c2]
def sp_empty (a1 : Int32) : Int32 := (if (a1) < 0 then (-2) else (if 8 ≤ (a1) then (-2) else 0))
set_option maxHeartbeats 4000000 in
set_option maxRecDepth 100000 in
theorem q_empty {sc : xS} {d : Nat} (t : xH) (a1 : Int32) : xT xg sc (d + 12) 84 0 [(0, .ref 0), (1, .int (a1))] [] (hC t) (fun r => r.1 = some (.int (sp_empty a1)) ∧ (∃ f, r.2.1 = xpre f t) ∧ r.2.2 = (0, 0)) := by
  refine wLin 1 i84_0 rfl rfl ?_
  refine jCall 4 [.int (a1)] [] [(0, .int (a1))] i84_1 rfl (xlk1 l84_86) (Or.inr (Or.inl rfl)) m98 rfl rfl (Nat.le_of_ble_eq_true rfl) (Nat.le_of_ble_eq_true rfl) (Nat.le_of_ble_eq_true rfl) rfl rfl rfl ?_
  refine wLin 1 i98_0 rfl rfl ?_
  by_cases c1 : (a1) < 0
  ·
    refine wZT 14 i98_1 rfl (decide_eq_true c1) ?_
    refine wK 15 0 i98_14 (by decide) rfl ?_
    refine jRi i98_15 m98 (by decide) ?_
    refine wZF 10 7 i84_4 rfl (by decide) rfl ?_
    refine wKb 9 (-2) i84_7 (by decide) rfl ?_
    refine wRi i84_9 m84 rfl ?_
    refine ⟨congrArg (fun z => some (Value.int z)) ?_, xpre_of _ _ rfl, rfl⟩
    rw [sp_empty, if_pos c1]
  ·
    refine wZF 14 4 i98_1 rfl (decide_eq_false c1) rfl ?_
    refine wLin 5 i98_4 rfl rfl ?_
    refine wKb 7 8 i98_5 (by decide) rfl ?_
    by_cases c2 : 8 ≤ (a1)
    ·
      refine wCT 14 i98_7 rfl (decide_eq_true c2) ?_
      refine wK 15 0 i98_14 (by decide) rfl ?_
      refine jRi i98_15 m98 (by decide) ?_
      refine wZF 10 7 i84_4 rfl (by decide) rfl ?_
      refine wKb 9 (-2) i84_7 (by decide) rfl ?_
      refine wRi i84_9 m84 rfl ?_
      refine ⟨congrArg (fun z => some (Value.int z)) ?_, xpre_of _ _ rfl, rfl⟩
      rw [sp_empty, if_neg c1, if_pos c2]
    ·
      refine wCF 14 10 i98_7 rfl (decide_eq_false c2) rfl ?_
      refine wK 11 1 i98_10 (by decide) rfl ?_
      refine wGo 15 i98_11 rfl ?_
      refine jRi i98_15 m98 (by decide) ?_
      refine wZT 10 i84_4 rfl (by decide) ?_
      refine wLan 11 i84_10 rfl rfl ?_
      refine wGet 14 (.ref 17) i84_11 f84_28 rfl rfl rfl ?_
      refine wGet 17 (.ref 18) i84_14 f84_104 rfl rfl rfl ?_
      refine wLin 18 i84_17 rfl rfl ?_
      refine wIal 19 i84_18 rfl (x_ib (Int32.not_lt.mp c1) (x_lt1 (z := 7) (Int32.not_le.mp c2) (by decide)) (by decide) (by decide)) rfl ?_
      refine tTop (v := 0) rfl ?_
      refine wSin 20 [(2, .int 0), (0, .ref 0), (1, .int (a1))] i84_19 m84 (by decide) rfl rfl ?_
      refine wLan 21 i84_20 rfl rfl ?_
      refine wGet 24 (.ref 17) i84_21 f84_28 rfl rfl rfl ?_
      refine wGet 27 (.ref 18) i84_24 f84_104 rfl rfl rfl ?_
      refine wLin 28 i84_27 rfl rfl ?_
      refine wK 29 0 i84_28 (by decide) rfl ?_
      refine wIasS 30 i84_29 rfl (x_ib (Int32.not_lt.mp c1) (x_lt1 (z := 7) (Int32.not_le.mp c2) (by decide)) (by decide) (by decide)) rfl rfl ?_
      refine wLan 31 i84_30 rfl rfl ?_
      refine wGet 34 (.ref 26) i84_31 f84_35 rfl rfl rfl ?_
      refine jCall 37 [.ref 26] [] [(0, .ref 26)] i84_34 rfl (xlk0 l84_101) (Or.inl rfl) m77 rfl rfl (Nat.le_of_ble_eq_true rfl) (Nat.le_of_ble_eq_true rfl) (Nat.le_of_ble_eq_true rfl) rfl rfl rfl ?_
      refine wK 1 0 i77_0 (by decide) rfl ?_
      refine wSin 2 [(1, .int 0), (0, .ref 26)] i77_1 m77 (by decide) rfl rfl ?_
      refine wLin 3 i77_2 rfl rfl ?_
      refine wLan 4 i77_3 rfl rfl ?_
      refine wGet 7 (.int 0) i77_4 f77_9 rfl rfl rfl ?_
      refine wCT 26 i77_7 rfl (by decide) ?_
      refine wLan 27 i77_26 rfl rfl ?_
      refine wK 28 0 i77_27 (by decide) rfl ?_
      refine wPutS 31 i77_28 p77_9 rfl rfl rfl rfl rfl ?_
      refine jR0 i77_31 m77 ?_
      refine wLin 38 i84_37 rfl rfl ?_
      refine wRi i84_38 m84 rfl ?_
      refine ⟨congrArg (fun z => some (Value.int z)) ?_, xpre_of _ _ rfl, rfl⟩
      rw [sp_empty, if_neg c1, if_neg c2]
def sp_part (a1 : Int32) (a2 : Int32) (a3 : Int32) : Int32 := (if (a1) < 0 then (-2) else (if 8 ≤ (a1) then (-2) else (if (a3) < 0 then (-2) else (if (a3) ≤ 5 then (-3) else (-2)))))
set_option maxHeartbeats 4000000 in
set_option maxRecDepth 100000 in
theorem q_part {sc : xS} {d : Nat} (t : xH) (a1 : Int32) (a2 : Int32) (a3 : Int32) : xT xg sc (d + 12) 105 0 [(0, .ref 0), (1, .int (a1)), (2, .int (a2)), (3, .int (a3))] [] (hC t) (fun r => r.1 = some (.int (sp_part a1 a2 a3)) ∧ (∃ f, r.2.1 = xpre f t) ∧ r.2.2 = (0, 0)) := by
  refine wLin 1 i105_0 rfl rfl ?_
  refine jCall 4 [.int (a1)] [] [(0, .int (a1))] i105_1 rfl (xlk1 l105_86) (Or.inr (Or.inl rfl)) m98 rfl rfl (Nat.le_of_ble_eq_true rfl) (Nat.le_of_ble_eq_true rfl) (Nat.le_of_ble_eq_true rfl) rfl rfl rfl ?_
  refine wLin 1 i98_0 rfl rfl ?_
  by_cases c1 : (a1) < 0
  ·
    refine wZT 14 i98_1 rfl (decide_eq_true c1) ?_
    refine wK 15 0 i98_14 (by decide) rfl ?_
    refine jRi i98_15 m98 (by decide) ?_
    refine wZT 16 i105_4 rfl (by decide) ?_
    refine wKb 18 (-2) i105_16 (by decide) rfl ?_
    refine wRi i105_18 m105 rfl ?_
    refine ⟨congrArg (fun z => some (Value.int z)) ?_, xpre_of _ _ rfl, rfl⟩
    rw [sp_part, if_pos c1]
  ·
    refine wZF 14 4 i98_1 rfl (decide_eq_false c1) rfl ?_
    refine wLin 5 i98_4 rfl rfl ?_
    refine wKb 7 8 i98_5 (by decide) rfl ?_
    by_cases c2 : 8 ≤ (a1)
    ·
      refine wCT 14 i98_7 rfl (decide_eq_true c2) ?_
      refine wK 15 0 i98_14 (by decide) rfl ?_
      refine jRi i98_15 m98 (by decide) ?_
      refine wZT 16 i105_4 rfl (by decide) ?_
      refine wKb 18 (-2) i105_16 (by decide) rfl ?_
      refine wRi i105_18 m105 rfl ?_
      refine ⟨congrArg (fun z => some (Value.int z)) ?_, xpre_of _ _ rfl, rfl⟩
      rw [sp_part, if_neg c1, if_pos c2]
    ·
      refine wCF 14 10 i98_7 rfl (decide_eq_false c2) rfl ?_
      refine wK 11 1 i98_10 (by decide) rfl ?_
      refine wGo 15 i98_11 rfl ?_
      refine jRi i98_15 m98 (by decide) ?_
      refine wZF 16 7 i105_4 rfl (by decide) rfl ?_
      refine wLin 8 i105_7 rfl rfl ?_
      by_cases c3 : (a3) < 0
      ·
        refine wZT 16 i105_8 rfl (decide_eq_true c3) ?_
        refine wKb 18 (-2) i105_16 (by decide) rfl ?_
        refine wRi i105_18 m105 rfl ?_
        refine ⟨congrArg (fun z => some (Value.int z)) ?_, xpre_of _ _ rfl, rfl⟩
        rw [sp_part, if_neg c1, if_neg c2, if_pos c3]
      ·
        refine wZF 16 11 i105_8 rfl (decide_eq_false c3) rfl ?_
        refine wLin 12 i105_11 rfl rfl ?_
        refine wK 13 5 i105_12 (by decide) rfl ?_
        by_cases c4 : (a3) ≤ 5
        ·
          refine wCT 19 i105_13 rfl (decide_eq_true c4) ?_
          refine wLan 20 i105_19 rfl rfl ?_
          refine wLin 21 i105_20 rfl rfl ?_
          refine jCall 24 [.ref 0, .int (a1)] [] [(0, .ref 0), (1, .int (a1))] i105_21 rfl (xlk0 l105_108) (Or.inl rfl) m95 rfl rfl (Nat.le_of_ble_eq_true rfl) (Nat.le_of_ble_eq_true rfl) (Nat.le_of_ble_eq_true rfl) rfl rfl rfl ?_
          refine wLan 1 i95_0 rfl rfl ?_
          refine wGet 4 (.ref 17) i95_1 f95_28 rfl rfl rfl ?_
          refine wGet 7 (.ref 18) i95_4 f95_104 rfl rfl rfl ?_
          refine wLin 8 i95_7 rfl rfl ?_
          refine wIal 9 i95_8 rfl (x_ib (Int32.not_lt.mp c1) (x_lt1 (z := 7) (Int32.not_le.mp c2) (by decide)) (by decide) (by decide)) rfl ?_
          refine tTop (v := 0) rfl ?_
          refine wZF 16 12 i95_9 rfl (by decide) rfl ?_
          refine wK 13 1 i95_12 (by decide) rfl ?_
          refine wGo 17 i95_13 rfl ?_
          refine jRi i95_17 m95 (by decide) ?_
          refine wZF 30 27 i105_24 rfl (by decide) rfl ?_
          refine wKb 29 (-3) i105_27 (by decide) rfl ?_
          refine wRi i105_29 m105 rfl ?_
          refine ⟨congrArg (fun z => some (Value.int z)) ?_, xpre_of _ _ rfl, rfl⟩
          rw [sp_part, if_neg c1, if_neg c2, if_neg c3, if_pos c4]
        ·
          refine wCF 19 16 i105_13 rfl (decide_eq_false c4) rfl ?_
          refine wKb 18 (-2) i105_16 (by decide) rfl ?_
          refine wRi i105_18 m105 rfl ?_
          refine ⟨congrArg (fun z => some (Value.int z)) ?_, xpre_of _ _ rfl, rfl⟩
          rw [sp_part, if_neg c1, if_neg c2, if_neg c3, if_neg c4]
def sp_number (a1 : Int32) (a2 : Int32) : Int64 := (if (a1) < 0 then (-4611686018427387904) else (if 8 ≤ (a1) then (-4611686018427387904) else (if (a2) < 0 then (-4611686018427387904) else (-4611686018427387904))))
set_option maxHeartbeats 4000000 in
set_option maxRecDepth 100000 in
theorem q_number {sc : xS} {d : Nat} (t : xH) (a1 : Int32) (a2 : Int32) : xT xg sc (d + 12) 104 0 [(0, .ref 0), (1, .int (a1)), (2, .int (a2))] [] (hC t) (fun r => r.1 = some (.long (sp_number a1 a2)) ∧ (∃ f, r.2.1 = xpre f t) ∧ r.2.2 = (0, 0)) := by
  refine wLan 1 i104_0 rfl rfl ?_
  refine wLin 2 i104_1 rfl rfl ?_
  refine wLin 3 i104_2 rfl rfl ?_
  refine jCall 6 [.ref 0, .int (a1), .int (a2)] [] [(0, .ref 0), (1, .int (a1)), (2, .int (a2))] i104_3 rfl (xlk0 l104_111) (Or.inl rfl) m90 rfl rfl (Nat.le_of_ble_eq_true rfl) (Nat.le_of_ble_eq_true rfl) (Nat.le_of_ble_eq_true rfl) rfl rfl rfl ?_
  refine wLin 1 i90_0 rfl rfl ?_
  refine jCall 4 [.int (a1)] [] [(0, .int (a1))] i90_1 rfl (xlk1 l90_86) (Or.inr (Or.inl rfl)) m98 rfl rfl (Nat.le_of_ble_eq_true rfl) (Nat.le_of_ble_eq_true rfl) (Nat.le_of_ble_eq_true rfl) rfl rfl rfl ?_
  refine wLin 1 i98_0 rfl rfl ?_
  by_cases c1 : (a1) < 0
  ·
    refine wZT 14 i98_1 rfl (decide_eq_true c1) ?_
    refine wK 15 0 i98_14 (by decide) rfl ?_
    refine jRi i98_15 m98 (by decide) ?_
    refine wZT 28 i90_4 rfl (by decide) ?_
    refine wK 29 0 i90_28 (by decide) rfl ?_
    refine jRi i90_29 m90 (by decide) ?_
    refine wZF 13 9 i104_6 rfl (by decide) rfl ?_
    refine wKd 12 (-4611686018427387904) i104_9 c104_133 rfl ?_
    refine wRl i104_12 m104 ?_
    refine ⟨congrArg (fun z => some (Value.long z)) ?_, xpre_of _ _ rfl, rfl⟩
    rw [sp_number, if_pos c1]
  ·
    refine wZF 14 4 i98_1 rfl (decide_eq_false c1) rfl ?_
    refine wLin 5 i98_4 rfl rfl ?_
    refine wKb 7 8 i98_5 (by decide) rfl ?_
    by_cases c2 : 8 ≤ (a1)
    ·
      refine wCT 14 i98_7 rfl (decide_eq_true c2) ?_
      refine wK 15 0 i98_14 (by decide) rfl ?_
      refine jRi i98_15 m98 (by decide) ?_
      refine wZT 28 i90_4 rfl (by decide) ?_
      refine wK 29 0 i90_28 (by decide) rfl ?_
      refine jRi i90_29 m90 (by decide) ?_
      refine wZF 13 9 i104_6 rfl (by decide) rfl ?_
      refine wKd 12 (-4611686018427387904) i104_9 c104_133 rfl ?_
      refine wRl i104_12 m104 ?_
      refine ⟨congrArg (fun z => some (Value.long z)) ?_, xpre_of _ _ rfl, rfl⟩
      rw [sp_number, if_neg c1, if_pos c2]
    ·
      refine wCF 14 10 i98_7 rfl (decide_eq_false c2) rfl ?_
      refine wK 11 1 i98_10 (by decide) rfl ?_
      refine wGo 15 i98_11 rfl ?_
      refine jRi i98_15 m98 (by decide) ?_
      refine wZF 28 7 i90_4 rfl (by decide) rfl ?_
      refine wLin 8 i90_7 rfl rfl ?_
      by_cases c3 : (a2) < 0
      ·
        refine wZT 28 i90_8 rfl (decide_eq_true c3) ?_
        refine wK 29 0 i90_28 (by decide) rfl ?_
        refine jRi i90_29 m90 (by decide) ?_
        refine wZF 13 9 i104_6 rfl (by decide) rfl ?_
        refine wKd 12 (-4611686018427387904) i104_9 c104_133 rfl ?_
        refine wRl i104_12 m104 ?_
        refine ⟨congrArg (fun z => some (Value.long z)) ?_, xpre_of _ _ rfl, rfl⟩
        rw [sp_number, if_neg c1, if_neg c2, if_pos c3]
      ·
        refine wZF 28 11 i90_8 rfl (decide_eq_false c3) rfl ?_
        refine wLin 12 i90_11 rfl rfl ?_
        refine wLan 13 i90_12 rfl rfl ?_
        refine wGet 16 (.ref 17) i90_13 f90_28 rfl rfl rfl ?_
        refine wGet 19 (.ref 18) i90_16 f90_104 rfl rfl rfl ?_
        refine wLin 20 i90_19 rfl rfl ?_
        refine wIal 21 i90_20 rfl (x_ib (Int32.not_lt.mp c1) (x_lt1 (z := 7) (Int32.not_le.mp c2) (by decide)) (by decide) (by decide)) rfl ?_
        refine tTop (v := 0) rfl ?_
        refine wCT 28 i90_21 rfl (decide_eq_true (x_leh (Int32.not_lt.mp c3) (by decide))) ?_
        refine wK 29 0 i90_28 (by decide) rfl ?_
        refine jRi i90_29 m90 (by decide) ?_
        refine wZF 13 9 i104_6 rfl (by decide) rfl ?_
        refine wKd 12 (-4611686018427387904) i104_9 c104_133 rfl ?_
        refine wRl i104_12 m104 ?_
        refine ⟨congrArg (fun z => some (Value.long z)) ?_, xpre_of _ _ rfl, rfl⟩
        rw [sp_number, if_neg c1, if_neg c2, if_neg c3]
def sp_entry (a1 : Int32) (a2 : Int32) (a3 : Int32) : Int64 := (if (a1) < 0 then (-4611686018427387904) else (if 8 ≤ (a1) then (-4611686018427387904) else (if (a2) < 0 then (-4611686018427387904) else (-4611686018427387904))))
set_option maxHeartbeats 4000000 in
set_option maxRecDepth 100000 in
theorem q_entry {sc : xS} {d : Nat} (t : xH) (a1 : Int32) (a2 : Int32) (a3 : Int32) : xT xg sc (d + 12) 85 0 [(0, .ref 0), (1, .int (a1)), (2, .int (a2)), (3, .int (a3))] [] (hC t) (fun r => r.1 = some (.long (sp_entry a1 a2 a3)) ∧ (∃ f, r.2.1 = xpre f t) ∧ r.2.2 = (0, 0)) := by
  refine wLan 1 i85_0 rfl rfl ?_
  refine wLin 2 i85_1 rfl rfl ?_
  refine wLin 3 i85_2 rfl rfl ?_
  refine jCall 6 [.ref 0, .int (a1), .int (a2)] [] [(0, .ref 0), (1, .int (a1)), (2, .int (a2))] i85_3 rfl (xlk0 l85_111) (Or.inl rfl) m90 rfl rfl (Nat.le_of_ble_eq_true rfl) (Nat.le_of_ble_eq_true rfl) (Nat.le_of_ble_eq_true rfl) rfl rfl rfl ?_
  refine wLin 1 i90_0 rfl rfl ?_
  refine jCall 4 [.int (a1)] [] [(0, .int (a1))] i90_1 rfl (xlk1 l90_86) (Or.inr (Or.inl rfl)) m98 rfl rfl (Nat.le_of_ble_eq_true rfl) (Nat.le_of_ble_eq_true rfl) (Nat.le_of_ble_eq_true rfl) rfl rfl rfl ?_
  refine wLin 1 i98_0 rfl rfl ?_
  by_cases c1 : (a1) < 0
  ·
    refine wZT 14 i98_1 rfl (decide_eq_true c1) ?_
    refine wK 15 0 i98_14 (by decide) rfl ?_
    refine jRi i98_15 m98 (by decide) ?_
    refine wZT 28 i90_4 rfl (by decide) ?_
    refine wK 29 0 i90_28 (by decide) rfl ?_
    refine jRi i90_29 m90 (by decide) ?_
    refine wZF 13 9 i85_6 rfl (by decide) rfl ?_
    refine wKd 12 (-4611686018427387904) i85_9 c85_133 rfl ?_
    refine wRl i85_12 m85 ?_
    refine ⟨congrArg (fun z => some (Value.long z)) ?_, xpre_of _ _ rfl, rfl⟩
    rw [sp_entry, if_pos c1]
  ·
    refine wZF 14 4 i98_1 rfl (decide_eq_false c1) rfl ?_
    refine wLin 5 i98_4 rfl rfl ?_
    refine wKb 7 8 i98_5 (by decide) rfl ?_
    by_cases c2 : 8 ≤ (a1)
    ·
      refine wCT 14 i98_7 rfl (decide_eq_true c2) ?_
      refine wK 15 0 i98_14 (by decide) rfl ?_
      refine jRi i98_15 m98 (by decide) ?_
      refine wZT 28 i90_4 rfl (by decide) ?_
      refine wK 29 0 i90_28 (by decide) rfl ?_
      refine jRi i90_29 m90 (by decide) ?_
      refine wZF 13 9 i85_6 rfl (by decide) rfl ?_
      refine wKd 12 (-4611686018427387904) i85_9 c85_133 rfl ?_
      refine wRl i85_12 m85 ?_
      refine ⟨congrArg (fun z => some (Value.long z)) ?_, xpre_of _ _ rfl, rfl⟩
      rw [sp_entry, if_neg c1, if_pos c2]
    ·
      refine wCF 14 10 i98_7 rfl (decide_eq_false c2) rfl ?_
      refine wK 11 1 i98_10 (by decide) rfl ?_
      refine wGo 15 i98_11 rfl ?_
      refine jRi i98_15 m98 (by decide) ?_
      refine wZF 28 7 i90_4 rfl (by decide) rfl ?_
      refine wLin 8 i90_7 rfl rfl ?_
      by_cases c3 : (a2) < 0
      ·
        refine wZT 28 i90_8 rfl (decide_eq_true c3) ?_
        refine wK 29 0 i90_28 (by decide) rfl ?_
        refine jRi i90_29 m90 (by decide) ?_
        refine wZF 13 9 i85_6 rfl (by decide) rfl ?_
        refine wKd 12 (-4611686018427387904) i85_9 c85_133 rfl ?_
        refine wRl i85_12 m85 ?_
        refine ⟨congrArg (fun z => some (Value.long z)) ?_, xpre_of _ _ rfl, rfl⟩
        rw [sp_entry, if_neg c1, if_neg c2, if_pos c3]
      ·
        refine wZF 28 11 i90_8 rfl (decide_eq_false c3) rfl ?_
        refine wLin 12 i90_11 rfl rfl ?_
        refine wLan 13 i90_12 rfl rfl ?_
        refine wGet 16 (.ref 17) i90_13 f90_28 rfl rfl rfl ?_
        refine wGet 19 (.ref 18) i90_16 f90_104 rfl rfl rfl ?_
        refine wLin 20 i90_19 rfl rfl ?_
        refine wIal 21 i90_20 rfl (x_ib (Int32.not_lt.mp c1) (x_lt1 (z := 7) (Int32.not_le.mp c2) (by decide)) (by decide) (by decide)) rfl ?_
        refine tTop (v := 0) rfl ?_
        refine wCT 28 i90_21 rfl (decide_eq_true (x_leh (Int32.not_lt.mp c3) (by decide))) ?_
        refine wK 29 0 i90_28 (by decide) rfl ?_
        refine jRi i90_29 m90 (by decide) ?_
        refine wZF 13 9 i85_6 rfl (by decide) rfl ?_
        refine wKd 12 (-4611686018427387904) i85_9 c85_133 rfl ?_
        refine wRl i85_12 m85 ?_
        refine ⟨congrArg (fun z => some (Value.long z)) ?_, xpre_of _ _ rfl, rfl⟩
        rw [sp_entry, if_neg c1, if_neg c2, if_neg c3]
def sp_twist (a1 : Int32) (a2 : Int32) (a3 : Int32) : Int32 := (if (a1) < 0 then (-2) else (if 8 ≤ (a1) then (-2) else (if (a3) < (-9999) then (-2) else (if (a3) ≤ 9999 then (-3) else (-2)))))
set_option maxHeartbeats 4000000 in
set_option maxRecDepth 100000 in
theorem q_twist {sc : xS} {d : Nat} (t : xH) (a1 : Int32) (a2 : Int32) (a3 : Int32) : xT xg sc (d + 12) 119 0 [(0, .ref 0), (1, .int (a1)), (2, .int (a2)), (3, .int (a3))] [] (hC t) (fun r => r.1 = some (.int (sp_twist a1 a2 a3)) ∧ (∃ f, r.2.1 = xpre f t) ∧ r.2.2 = (0, 0)) := by
  refine wLin 1 i119_0 rfl rfl ?_
  refine jCall 4 [.int (a1)] [] [(0, .int (a1))] i119_1 rfl (xlk1 l119_86) (Or.inr (Or.inl rfl)) m98 rfl rfl (Nat.le_of_ble_eq_true rfl) (Nat.le_of_ble_eq_true rfl) (Nat.le_of_ble_eq_true rfl) rfl rfl rfl ?_
  refine wLin 1 i98_0 rfl rfl ?_
  by_cases c1 : (a1) < 0
  ·
    refine wZT 14 i98_1 rfl (decide_eq_true c1) ?_
    refine wK 15 0 i98_14 (by decide) rfl ?_
    refine jRi i98_15 m98 (by decide) ?_
    refine wZT 21 i119_4 rfl (by decide) ?_
    refine wKb 23 (-2) i119_21 (by decide) rfl ?_
    refine wRi i119_23 m119 rfl ?_
    refine ⟨congrArg (fun z => some (Value.int z)) ?_, xpre_of _ _ rfl, rfl⟩
    rw [sp_twist, if_pos c1]
  ·
    refine wZF 14 4 i98_1 rfl (decide_eq_false c1) rfl ?_
    refine wLin 5 i98_4 rfl rfl ?_
    refine wKb 7 8 i98_5 (by decide) rfl ?_
    by_cases c2 : 8 ≤ (a1)
    ·
      refine wCT 14 i98_7 rfl (decide_eq_true c2) ?_
      refine wK 15 0 i98_14 (by decide) rfl ?_
      refine jRi i98_15 m98 (by decide) ?_
      refine wZT 21 i119_4 rfl (by decide) ?_
      refine wKb 23 (-2) i119_21 (by decide) rfl ?_
      refine wRi i119_23 m119 rfl ?_
      refine ⟨congrArg (fun z => some (Value.int z)) ?_, xpre_of _ _ rfl, rfl⟩
      rw [sp_twist, if_neg c1, if_pos c2]
    ·
      refine wCF 14 10 i98_7 rfl (decide_eq_false c2) rfl ?_
      refine wK 11 1 i98_10 (by decide) rfl ?_
      refine wGo 15 i98_11 rfl ?_
      refine jRi i98_15 m98 (by decide) ?_
      refine wZF 21 7 i119_4 rfl (by decide) rfl ?_
      refine wLin 8 i119_7 rfl rfl ?_
      refine wKs 11 (-9999) i119_8 (by decide) rfl ?_
      by_cases c3 : (a3) < (-9999)
      ·
        refine wCT 21 i119_11 rfl (decide_eq_true c3) ?_
        refine wKb 23 (-2) i119_21 (by decide) rfl ?_
        refine wRi i119_23 m119 rfl ?_
        refine ⟨congrArg (fun z => some (Value.int z)) ?_, xpre_of _ _ rfl, rfl⟩
        rw [sp_twist, if_neg c1, if_neg c2, if_pos c3]
      ·
        refine wCF 21 14 i119_11 rfl (decide_eq_false c3) rfl ?_
        refine wLin 15 i119_14 rfl rfl ?_
        refine wKs 18 9999 i119_15 (by decide) rfl ?_
        by_cases c4 : (a3) ≤ 9999
        ·
          refine wCT 24 i119_18 rfl (decide_eq_true c4) ?_
          refine wLan 25 i119_24 rfl rfl ?_
          refine wLin 26 i119_25 rfl rfl ?_
          refine jCall 29 [.ref 0, .int (a1)] [] [(0, .ref 0), (1, .int (a1))] i119_26 rfl (xlk0 l119_108) (Or.inl rfl) m95 rfl rfl (Nat.le_of_ble_eq_true rfl) (Nat.le_of_ble_eq_true rfl) (Nat.le_of_ble_eq_true rfl) rfl rfl rfl ?_
          refine wLan 1 i95_0 rfl rfl ?_
          refine wGet 4 (.ref 17) i95_1 f95_28 rfl rfl rfl ?_
          refine wGet 7 (.ref 18) i95_4 f95_104 rfl rfl rfl ?_
          refine wLin 8 i95_7 rfl rfl ?_
          refine wIal 9 i95_8 rfl (x_ib (Int32.not_lt.mp c1) (x_lt1 (z := 7) (Int32.not_le.mp c2) (by decide)) (by decide) (by decide)) rfl ?_
          refine tTop (v := 0) rfl ?_
          refine wZF 16 12 i95_9 rfl (by decide) rfl ?_
          refine wK 13 1 i95_12 (by decide) rfl ?_
          refine wGo 17 i95_13 rfl ?_
          refine jRi i95_17 m95 (by decide) ?_
          refine wZF 35 32 i119_29 rfl (by decide) rfl ?_
          refine wKb 34 (-3) i119_32 (by decide) rfl ?_
          refine wRi i119_34 m119 rfl ?_
          refine ⟨congrArg (fun z => some (Value.int z)) ?_, xpre_of _ _ rfl, rfl⟩
          rw [sp_twist, if_neg c1, if_neg c2, if_neg c3, if_pos c4]
        ·
          refine wCF 24 21 i119_18 rfl (decide_eq_false c4) rfl ?_
          refine wKb 23 (-2) i119_21 (by decide) rfl ?_
          refine wRi i119_23 m119 rfl ?_
          refine ⟨congrArg (fun z => some (Value.int z)) ?_, xpre_of _ _ rfl, rfl⟩
          rw [sp_twist, if_neg c1, if_neg c2, if_neg c3, if_neg c4]
def sp_taken (a1 : Int32) (a2 : Int32) (a3 : Int32) : Int32 := (if (a1) < 0 then (-2) else (if 8 ≤ (a1) then (-2) else (if (a3) < 0 then (-2) else (if (a3) ≤ 2 then (-3) else (-2)))))
set_option maxHeartbeats 4000000 in
set_option maxRecDepth 100000 in
theorem q_taken {sc : xS} {d : Nat} (t : xH) (a1 : Int32) (a2 : Int32) (a3 : Int32) : xT xg sc (d + 12) 113 0 [(0, .ref 0), (1, .int (a1)), (2, .int (a2)), (3, .int (a3))] [] (hC t) (fun r => r.1 = some (.int (sp_taken a1 a2 a3)) ∧ (∃ f, r.2.1 = xpre f t) ∧ r.2.2 = (0, 0)) := by
  refine wLin 1 i113_0 rfl rfl ?_
  refine jCall 4 [.int (a1)] [] [(0, .int (a1))] i113_1 rfl (xlk1 l113_86) (Or.inr (Or.inl rfl)) m98 rfl rfl (Nat.le_of_ble_eq_true rfl) (Nat.le_of_ble_eq_true rfl) (Nat.le_of_ble_eq_true rfl) rfl rfl rfl ?_
  refine wLin 1 i98_0 rfl rfl ?_
  by_cases c1 : (a1) < 0
  ·
    refine wZT 14 i98_1 rfl (decide_eq_true c1) ?_
    refine wK 15 0 i98_14 (by decide) rfl ?_
    refine jRi i98_15 m98 (by decide) ?_
    refine wZT 16 i113_4 rfl (by decide) ?_
    refine wKb 18 (-2) i113_16 (by decide) rfl ?_
    refine wRi i113_18 m113 rfl ?_
    refine ⟨congrArg (fun z => some (Value.int z)) ?_, xpre_of _ _ rfl, rfl⟩
    rw [sp_taken, if_pos c1]
  ·
    refine wZF 14 4 i98_1 rfl (decide_eq_false c1) rfl ?_
    refine wLin 5 i98_4 rfl rfl ?_
    refine wKb 7 8 i98_5 (by decide) rfl ?_
    by_cases c2 : 8 ≤ (a1)
    ·
      refine wCT 14 i98_7 rfl (decide_eq_true c2) ?_
      refine wK 15 0 i98_14 (by decide) rfl ?_
      refine jRi i98_15 m98 (by decide) ?_
      refine wZT 16 i113_4 rfl (by decide) ?_
      refine wKb 18 (-2) i113_16 (by decide) rfl ?_
      refine wRi i113_18 m113 rfl ?_
      refine ⟨congrArg (fun z => some (Value.int z)) ?_, xpre_of _ _ rfl, rfl⟩
      rw [sp_taken, if_neg c1, if_pos c2]
    ·
      refine wCF 14 10 i98_7 rfl (decide_eq_false c2) rfl ?_
      refine wK 11 1 i98_10 (by decide) rfl ?_
      refine wGo 15 i98_11 rfl ?_
      refine jRi i98_15 m98 (by decide) ?_
      refine wZF 16 7 i113_4 rfl (by decide) rfl ?_
      refine wLin 8 i113_7 rfl rfl ?_
      by_cases c3 : (a3) < 0
      ·
        refine wZT 16 i113_8 rfl (decide_eq_true c3) ?_
        refine wKb 18 (-2) i113_16 (by decide) rfl ?_
        refine wRi i113_18 m113 rfl ?_
        refine ⟨congrArg (fun z => some (Value.int z)) ?_, xpre_of _ _ rfl, rfl⟩
        rw [sp_taken, if_neg c1, if_neg c2, if_pos c3]
      ·
        refine wZF 16 11 i113_8 rfl (decide_eq_false c3) rfl ?_
        refine wLin 12 i113_11 rfl rfl ?_
        refine wK 13 2 i113_12 (by decide) rfl ?_
        by_cases c4 : (a3) ≤ 2
        ·
          refine wCT 19 i113_13 rfl (decide_eq_true c4) ?_
          refine wLan 20 i113_19 rfl rfl ?_
          refine wLin 21 i113_20 rfl rfl ?_
          refine jCall 24 [.ref 0, .int (a1)] [] [(0, .ref 0), (1, .int (a1))] i113_21 rfl (xlk0 l113_108) (Or.inl rfl) m95 rfl rfl (Nat.le_of_ble_eq_true rfl) (Nat.le_of_ble_eq_true rfl) (Nat.le_of_ble_eq_true rfl) rfl rfl rfl ?_
          refine wLan 1 i95_0 rfl rfl ?_
          refine wGet 4 (.ref 17) i95_1 f95_28 rfl rfl rfl ?_
          refine wGet 7 (.ref 18) i95_4 f95_104 rfl rfl rfl ?_
          refine wLin 8 i95_7 rfl rfl ?_
          refine wIal 9 i95_8 rfl (x_ib (Int32.not_lt.mp c1) (x_lt1 (z := 7) (Int32.not_le.mp c2) (by decide)) (by decide) (by decide)) rfl ?_
          refine tTop (v := 0) rfl ?_
          refine wZF 16 12 i95_9 rfl (by decide) rfl ?_
          refine wK 13 1 i95_12 (by decide) rfl ?_
          refine wGo 17 i95_13 rfl ?_
          refine jRi i95_17 m95 (by decide) ?_
          refine wZF 30 27 i113_24 rfl (by decide) rfl ?_
          refine wKb 29 (-3) i113_27 (by decide) rfl ?_
          refine wRi i113_29 m113 rfl ?_
          refine ⟨congrArg (fun z => some (Value.int z)) ?_, xpre_of _ _ rfl, rfl⟩
          rw [sp_taken, if_neg c1, if_neg c2, if_neg c3, if_pos c4]
        ·
          refine wCF 19 16 i113_13 rfl (decide_eq_false c4) rfl ?_
          refine wKb 18 (-2) i113_16 (by decide) rfl ?_
          refine wRi i113_18 m113 rfl ?_
          refine ⟨congrArg (fun z => some (Value.int z)) ?_, xpre_of _ _ rfl, rfl⟩
          rw [sp_taken, if_neg c1, if_neg c2, if_neg c3, if_neg c4]
def sp_print (a1 : Int32) (a2 : Int32) : Int32 := (if (a1) < 0 then (-2) else (if 8 ≤ (a1) then (-2) else (-3)))
set_option maxHeartbeats 4000000 in
set_option maxRecDepth 100000 in
theorem q_print {sc : xS} {d : Nat} (t : xH) (a1 : Int32) (a2 : Int32) : xT xg sc (d + 12) 106 0 [(0, .ref 0), (1, .int (a1)), (2, .int (a2))] [] (hC t) (fun r => r.1 = some (.int (sp_print a1 a2)) ∧ (∃ f, r.2.1 = xpre f t) ∧ r.2.2 = (0, 0)) := by
  refine wLin 1 i106_0 rfl rfl ?_
  refine jCall 4 [.int (a1)] [] [(0, .int (a1))] i106_1 rfl (xlk1 l106_86) (Or.inr (Or.inl rfl)) m98 rfl rfl (Nat.le_of_ble_eq_true rfl) (Nat.le_of_ble_eq_true rfl) (Nat.le_of_ble_eq_true rfl) rfl rfl rfl ?_
  refine wLin 1 i98_0 rfl rfl ?_
  by_cases c1 : (a1) < 0
  ·
    refine wZT 14 i98_1 rfl (decide_eq_true c1) ?_
    refine wK 15 0 i98_14 (by decide) rfl ?_
    refine jRi i98_15 m98 (by decide) ?_
    refine wZF 10 7 i106_4 rfl (by decide) rfl ?_
    refine wKb 9 (-2) i106_7 (by decide) rfl ?_
    refine wRi i106_9 m106 rfl ?_
    refine ⟨congrArg (fun z => some (Value.int z)) ?_, xpre_of _ _ rfl, rfl⟩
    rw [sp_print, if_pos c1]
  ·
    refine wZF 14 4 i98_1 rfl (decide_eq_false c1) rfl ?_
    refine wLin 5 i98_4 rfl rfl ?_
    refine wKb 7 8 i98_5 (by decide) rfl ?_
    by_cases c2 : 8 ≤ (a1)
    ·
      refine wCT 14 i98_7 rfl (decide_eq_true c2) ?_
      refine wK 15 0 i98_14 (by decide) rfl ?_
      refine jRi i98_15 m98 (by decide) ?_
      refine wZF 10 7 i106_4 rfl (by decide) rfl ?_
      refine wKb 9 (-2) i106_7 (by decide) rfl ?_
      refine wRi i106_9 m106 rfl ?_
      refine ⟨congrArg (fun z => some (Value.int z)) ?_, xpre_of _ _ rfl, rfl⟩
      rw [sp_print, if_neg c1, if_pos c2]
    ·
      refine wCF 14 10 i98_7 rfl (decide_eq_false c2) rfl ?_
      refine wK 11 1 i98_10 (by decide) rfl ?_
      refine wGo 15 i98_11 rfl ?_
      refine jRi i98_15 m98 (by decide) ?_
      refine wZT 10 i106_4 rfl (by decide) ?_
      refine wLan 11 i106_10 rfl rfl ?_
      refine wLin 12 i106_11 rfl rfl ?_
      refine jCall 15 [.ref 0, .int (a1)] [] [(0, .ref 0), (1, .int (a1))] i106_12 rfl (xlk0 l106_108) (Or.inl rfl) m95 rfl rfl (Nat.le_of_ble_eq_true rfl) (Nat.le_of_ble_eq_true rfl) (Nat.le_of_ble_eq_true rfl) rfl rfl rfl ?_
      refine wLan 1 i95_0 rfl rfl ?_
      refine wGet 4 (.ref 17) i95_1 f95_28 rfl rfl rfl ?_
      refine wGet 7 (.ref 18) i95_4 f95_104 rfl rfl rfl ?_
      refine wLin 8 i95_7 rfl rfl ?_
      refine wIal 9 i95_8 rfl (x_ib (Int32.not_lt.mp c1) (x_lt1 (z := 7) (Int32.not_le.mp c2) (by decide)) (by decide) (by decide)) rfl ?_
      refine tTop (v := 0) rfl ?_
      refine wZF 16 12 i95_9 rfl (by decide) rfl ?_
      refine wK 13 1 i95_12 (by decide) rfl ?_
      refine wGo 17 i95_13 rfl ?_
      refine jRi i95_17 m95 (by decide) ?_
      refine wZF 21 18 i106_15 rfl (by decide) rfl ?_
      refine wKb 20 (-3) i106_18 (by decide) rfl ?_
      refine wRi i106_20 m106 rfl ?_
      refine ⟨congrArg (fun z => some (Value.int z)) ?_, xpre_of _ _ rfl, rfl⟩
      rw [sp_print, if_neg c1, if_neg c2]
