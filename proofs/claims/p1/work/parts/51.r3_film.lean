theorem i132_0 : xIns xg 132 0 = some (.iload_n 1) := by decide +kernel
theorem i132_1 : xIns xg 132 1 = some (.invokestatic 403) := by decide +kernel
theorem l132_403 : xMth xg 132 403 = some (1, 149, 1, 0) := by decide +kernel
theorem m149 : (xMet xg 149).2.2 = (1, (some .boolean)) := by decide +kernel
theorem i149_0 : xIns xg 149 0 = some (.iload_n 0) := by decide +kernel
theorem i149_1 : xIns xg 149 1 = some (.i2l) := by decide +kernel
theorem i149_2 : xIns xg 149 2 = some (.lconst 0) := by decide +kernel
theorem i149_3 : xIns xg 149 3 = some (.ldc2_w 272) := by decide +kernel
theorem c149_272 : xCon xg 149 272 = some (.long (3)) := by decide +kernel
theorem i149_6 : xIns xg 149 6 = some (.invokestatic 177) := by decide +kernel
theorem l149_177 : xMth xg 149 177 = some (1, 142, 3, 0) := by decide +kernel
theorem i149_9 : xIns xg 149 9 = some (.ireturn) := by decide +kernel
theorem i132_4 : xIns xg 132 4 = some (.ifCond .eq 22) := by decide +kernel
theorem i132_26 : xIns xg 132 26 = some (.bipush (-2)) := by decide +kernel
theorem i132_28 : xIns xg 132 28 = some (.ireturn) := by decide +kernel
theorem m132 : (xMet xg 132).2.2 = (7, (some .int)) := by decide +kernel
theorem i132_7 : xIns xg 132 7 = some (.iload_n 2) := by decide +kernel
theorem i132_8 : xIns xg 132 8 = some (.invokestatic 266) := by decide +kernel
theorem l132_266 : xMth xg 132 266 = some (1, 153, 1, 0) := by decide +kernel
theorem i132_11 : xIns xg 132 11 = some (.ifCond .eq 15) := by decide +kernel
theorem i132_14 : xIns xg 132 14 = some (.iload_n 3) := by decide +kernel
theorem i132_15 : xIns xg 132 15 = some (.i2l) := by decide +kernel
theorem i132_16 : xIns xg 132 16 = some (.lconst 0) := by decide +kernel
theorem i132_17 : xIns xg 132 17 = some (.ldc2_w 406) := by decide +kernel
theorem c132_406 : xCon xg 132 406 = some (.long (16)) := by decide +kernel
theorem i132_20 : xIns xg 132 20 = some (.invokestatic 177) := by decide +kernel
theorem l132_177 : xMth xg 132 177 = some (1, 142, 3, 0) := by decide +kernel
theorem i132_23 : xIns xg 132 23 = some (.ifCond .ne 6) := by decide +kernel
theorem i132_29 : xIns xg 132 29 = some (.aload_n 0) := by decide +kernel
theorem i132_30 : xIns xg 132 30 = some (.getfield 13) := by decide +kernel
theorem f132_13 : xFld xg 132 13 = some (7, 1) := by decide +kernel
theorem i132_33 : xIns xg 132 33 = some (.iload_n 2) := by decide +kernel
theorem i132_34 : xIns xg 132 34 = some (.iaload) := by decide +kernel
theorem i132_35 : xIns xg 132 35 = some (.ifCond .ne 6) := by decide +kernel
theorem i132_38 : xIns xg 132 38 = some (.bipush (-3)) := by decide +kernel
theorem i132_40 : xIns xg 132 40 = some (.ireturn) := by decide +kernel
theorem i187_0 : xIns xg 187 0 = some (.iload_n 1) := by decide +kernel
theorem i187_1 : xIns xg 187 1 = some (.invokestatic 403) := by decide +kernel
theorem l187_403 : xMth xg 187 403 = some (1, 149, 1, 0) := by decide +kernel
theorem i187_4 : xIns xg 187 4 = some (.ifCond .eq 26) := by decide +kernel
theorem i187_30 : xIns xg 187 30 = some (.bipush (-2)) := by decide +kernel
theorem i187_32 : xIns xg 187 32 = some (.ireturn) := by decide +kernel
theorem m187 : (xMet xg 187).2.2 = (13, (some .int)) := by decide +kernel
theorem i187_7 : xIns xg 187 7 = some (.iload_n 2) := by decide +kernel
theorem i187_8 : xIns xg 187 8 = some (.invokestatic 266) := by decide +kernel
theorem l187_266 : xMth xg 187 266 = some (1, 153, 1, 0) := by decide +kernel
theorem i187_11 : xIns xg 187 11 = some (.ifCond .eq 19) := by decide +kernel
theorem i187_14 : xIns xg 187 14 = some (.iload_n 3) := by decide +kernel
theorem i187_15 : xIns xg 187 15 = some (.ifCond .eq 18) := by decide +kernel
theorem i187_33 : xIns xg 187 33 = some (.aload_n 0) := by decide +kernel
theorem i187_34 : xIns xg 187 34 = some (.getfield 13) := by decide +kernel
theorem f187_13 : xFld xg 187 13 = some (7, 1) := by decide +kernel
theorem i187_37 : xIns xg 187 37 = some (.iload_n 2) := by decide +kernel
theorem i187_38 : xIns xg 187 38 = some (.iaload) := by decide +kernel
theorem i187_39 : xIns xg 187 39 = some (.ifCond .ne 6) := by decide +kernel
theorem i187_42 : xIns xg 187 42 = some (.bipush (-3)) := by decide +kernel
theorem i187_44 : xIns xg 187 44 = some (.ireturn) := by decide +kernel
theorem i187_18 : xIns xg 187 18 = some (.iload_n 3) := by decide +kernel
theorem i187_19 : xIns xg 187 19 = some (.iconst 4) := by decide +kernel
theorem i187_20 : xIns xg 187 20 = some (.if_icmp .lt 10) := by decide +kernel
theorem i187_23 : xIns xg 187 23 = some (.iload_n 3) := by decide +kernel
theorem i187_24 : xIns xg 187 24 = some (.iconst 4) := by decide +kernel
theorem i187_25 : xIns xg 187 25 = some (.irem) := by decide +kernel
theorem i187_26 : xIns xg 187 26 = some (.iconst 1) := by decide +kernel
theorem i187_27 : xIns xg 187 27 = some (.if_icmp .le 6) := by decide +kernel
theorem i141_0 : xIns xg 141 0 = some (.iconst 0) := by decide +kernel
theorem i141_1 : xIns xg 141 1 = some (.istore_n 1) := by decide +kernel
theorem i141_26 : xIns xg 141 26 = some (.iconst 0) := by decide +kernel
theorem i141_27 : xIns xg 141 27 = some (.istore_n 1) := by decide +kernel
theorem i141_161 : xIns xg 141 161 = some (.iconst 0) := by decide +kernel
theorem i141_162 : xIns xg 141 162 = some (.istore_n 1) := by decide +kernel
theorem i141_188 : xIns xg 141 188 = some (.iconst 0) := by decide +kernel
theorem i141_189 : xIns xg 141 189 = some (.istore_n 1) := by decide +kernel
theorem i141_239 : xIns xg 141 239 = some (.aload_n 0) := by decide +kernel
theorem i141_240 : xIns xg 141 240 = some (.aload_n 0) := by decide +kernel
theorem i141_241 : xIns xg 141 241 = some (.getfield 39) := by decide +kernel
theorem f141_39 : xFld xg 141 39 = some (7, 9) := by decide +kernel
theorem i141_244 : xIns xg 141 244 = some (.putfield 416) := by decide +kernel
theorem p141_416 : xPut xg 141 416 = some (7, 63, .int) := by decide +kernel
theorem i141_247 : xIns xg 141 247 = some (.aload_n 0) := by decide +kernel
theorem i141_248 : xIns xg 141 248 = some (.iconst 1) := by decide +kernel
theorem i141_249 : xIns xg 141 249 = some (.putfield 419) := by decide +kernel
theorem p141_419 : xPut xg 141 419 = some (7, 64, .boolean) := by decide +kernel
theorem i141_252 : xIns xg 141 252 = some (.aload_n 0) := by decide +kernel
theorem i141_253 : xIns xg 141 253 = some (.invokevirtual 422) := by decide +kernel
theorem l141_422 : xMth xg 141 422 = some (0, 136, 1, 7) := by decide +kernel
theorem m136 : (xMet xg 136).2.2 = (3, (some .int)) := by decide +kernel
theorem i136_0 : xIns xg 136 0 = some (.iconst 0) := by decide +kernel
theorem i136_1 : xIns xg 136 1 = some (.istore_n 1) := by decide +kernel
theorem i136_2 : xIns xg 136 2 = some (.iconst 0) := by decide +kernel
theorem i136_3 : xIns xg 136 3 = some (.istore_n 2) := by decide +kernel
theorem i136_4 : xIns xg 136 4 = some (.iload_n 2) := by decide +kernel
theorem i136_5 : xIns xg 136 5 = some (.bipush 8) := by decide +kernel
theorem i136_7 : xIns xg 136 7 = some (.if_icmp .ge 26) := by decide +kernel
theorem i136_10 : xIns xg 136 10 = some (.iload_n 1) := by decide +kernel
theorem i136_11 : xIns xg 136 11 = some (.aload_n 0) := by decide +kernel
theorem i136_12 : xIns xg 136 12 = some (.getfield 13) := by decide +kernel
theorem f136_13 : xFld xg 136 13 = some (7, 1) := by decide +kernel
theorem i136_15 : xIns xg 136 15 = some (.iload_n 2) := by decide +kernel
theorem i136_16 : xIns xg 136 16 = some (.iaload) := by decide +kernel
theorem i136_17 : xIns xg 136 17 = some (.ifCond .le 7) := by decide +kernel
theorem i136_24 : xIns xg 136 24 = some (.iconst 0) := by decide +kernel
theorem i136_25 : xIns xg 136 25 = some (.iadd) := by decide +kernel
theorem i136_26 : xIns xg 136 26 = some (.istore_n 1) := by decide +kernel
theorem i136_27 : xIns xg 136 27 = some (.iinc 2 1) := by decide +kernel
theorem i136_30 : xIns xg 136 30 = some (.goto (-26)) := by decide +kernel
theorem i136_33 : xIns xg 136 33 = some (.iload_n 1) := by decide +kernel
theorem i136_34 : xIns xg 136 34 = some (.ireturn) := by decide +kernel
theorem i141_256 : xIns xg 141 256 = some (.ireturn) := by decide +kernel
theorem i120_0 : xIns xg 120 0 = some (.aload_n 0) := by decide +kernel
theorem i120_1 : xIns xg 120 1 = some (.getfield 419) := by decide +kernel
theorem f120_419 : xFld xg 120 419 = some (7, 64) := by decide +kernel
theorem i120_4 : xIns xg 120 4 = some (.ifCond .ne 6) := by decide +kernel
theorem i120_7 : xIns xg 120 7 = some (.bipush (-3)) := by decide +kernel
theorem i120_9 : xIns xg 120 9 = some (.ireturn) := by decide +kernel
theorem m120 : (xMet xg 120).2.2 = (2, (some .int)) := by decide +kernel
theorem i124_0 : xIns xg 124 0 = some (.iload_n 1) := by decide +kernel
theorem i124_1 : xIns xg 124 1 = some (.i2l) := by decide +kernel
theorem i124_2 : xIns xg 124 2 = some (.lconst 0) := by decide +kernel
theorem i124_3 : xIns xg 124 3 = some (.ldc2_w 425) := by decide +kernel
theorem c124_425 : xCon xg 124 425 = some (.long (6)) := by decide +kernel
theorem i124_6 : xIns xg 124 6 = some (.invokestatic 177) := by decide +kernel
theorem l124_177 : xMth xg 124 177 = some (1, 142, 3, 0) := by decide +kernel
theorem i124_9 : xIns xg 124 9 = some (.ifCond .ne 6) := by decide +kernel
theorem i124_12 : xIns xg 124 12 = some (.bipush (-2)) := by decide +kernel
theorem i124_14 : xIns xg 124 14 = some (.ireturn) := by decide +kernel
theorem m124 : (xMet xg 124).2.2 = (4, (some .int)) := by decide +kernel
theorem i124_15 : xIns xg 124 15 = some (.iload_n 1) := by decide +kernel
theorem i124_16 : xIns xg 124 16 = some (.iconst 2) := by decide +kernel
theorem i124_17 : xIns xg 124 17 = some (.if_icmp .eq 8) := by decide +kernel
theorem i124_25 : xIns xg 124 25 = some (.aload_n 0) := by decide +kernel
theorem i124_26 : xIns xg 124 26 = some (.iload_n 1) := by decide +kernel
theorem i124_27 : xIns xg 124 27 = some (.iconst 2) := by decide +kernel
theorem i124_28 : xIns xg 124 28 = some (.isub) := by decide +kernel
theorem i124_29 : xIns xg 124 29 = some (.invokevirtual 389) := by decide +kernel
theorem l124_389 : xMth xg 124 389 = some (0, 192, 2, 7) := by decide +kernel
theorem i124_32 : xIns xg 124 32 = some (.ireturn) := by decide +kernel
theorem i124_20 : xIns xg 124 20 = some (.iload_n 1) := by decide +kernel
theorem i124_21 : xIns xg 124 21 = some (.iconst 3) := by decide +kernel
theorem i124_22 : xIns xg 124 22 = some (.if_icmp .ne 11) := by decide +kernel
theorem i124_33 : xIns xg 124 33 = some (.iconst 0) := by decide +kernel
theorem i124_34 : xIns xg 124 34 = some (.istore_n 2) := by decide +kernel
theorem i124_35 : xIns xg 124 35 = some (.iconst 0) := by decide +kernel
theorem i124_36 : xIns xg 124 36 = some (.istore_n 3) := by decide +kernel
theorem i124_37 : xIns xg 124 37 = some (.iload_n 3) := by decide +kernel
theorem i124_38 : xIns xg 124 38 = some (.bipush 8) := by decide +kernel
theorem i124_40 : xIns xg 124 40 = some (.if_icmp .ge 18) := by decide +kernel
theorem i124_43 : xIns xg 124 43 = some (.iload_n 2) := by decide +kernel
theorem i124_44 : xIns xg 124 44 = some (.aload_n 0) := by decide +kernel
theorem i124_45 : xIns xg 124 45 = some (.getfield 13) := by decide +kernel
theorem f124_13 : xFld xg 124 13 = some (7, 1) := by decide +kernel
theorem i124_48 : xIns xg 124 48 = some (.iload_n 3) := by decide +kernel
theorem i124_49 : xIns xg 124 49 = some (.iaload) := by decide +kernel
theorem i124_50 : xIns xg 124 50 = some (.iadd) := by decide +kernel
theorem i124_51 : xIns xg 124 51 = some (.istore_n 2) := by decide +kernel
theorem i124_52 : xIns xg 124 52 = some (.iinc 3 1) := by decide +kernel
theorem i124_55 : xIns xg 124 55 = some (.goto (-18)) := by decide +kernel
theorem i124_58 : xIns xg 124 58 = some (.iload_n 1) := by decide +kernel
theorem i124_59 : xIns xg 124 59 = some (.ifCond .ne 10) := by decide +kernel
theorem i124_62 : xIns xg 124 62 = some (.aload_n 0) := by decide +kernel
theorem i124_63 : xIns xg 124 63 = some (.invokevirtual 422) := by decide +kernel
theorem l124_422 : xMth xg 124 422 = some (0, 136, 1, 7) := by decide +kernel
theorem i124_66 : xIns xg 124 66 = some (.goto 40) := by decide +kernel
theorem i124_106 : xIns xg 124 106 = some (.ireturn) := by decide +kernel
theorem i124_69 : xIns xg 124 69 = some (.iload_n 1) := by decide +kernel
theorem i124_70 : xIns xg 124 70 = some (.iconst 1) := by decide +kernel
theorem i124_71 : xIns xg 124 71 = some (.if_icmp .ne 7) := by decide +kernel
theorem i124_74 : xIns xg 124 74 = some (.iload_n 2) := by decide +kernel
theorem i124_75 : xIns xg 124 75 = some (.goto 31) := by decide +kernel
theorem i124_78 : xIns xg 124 78 = some (.iload_n 1) := by decide +kernel
theorem i124_79 : xIns xg 124 79 = some (.iconst 4) := by decide +kernel
theorem i124_80 : xIns xg 124 80 = some (.if_icmp .ne 10) := by decide +kernel
theorem i124_83 : xIns xg 124 83 = some (.aload_n 0) := by decide +kernel
theorem i124_84 : xIns xg 124 84 = some (.getfield 378) := by decide +kernel
theorem f124_378 : xFld xg 124 378 = some (7, 39) := by decide +kernel
theorem i124_87 : xIns xg 124 87 = some (.goto 19) := by decide +kernel
theorem i124_90 : xIns xg 124 90 = some (.iload_n 1) := by decide +kernel
theorem i124_91 : xIns xg 124 91 = some (.iconst 5) := by decide +kernel
theorem i124_92 : xIns xg 124 92 = some (.if_icmp .ne 10) := by decide +kernel
theorem i124_95 : xIns xg 124 95 = some (.aload_n 0) := by decide +kernel
theorem i124_96 : xIns xg 124 96 = some (.getfield 183) := by decide +kernel
theorem f124_183 : xFld xg 124 183 = some (7, 19) := by decide +kernel
theorem i124_99 : xIns xg 124 99 = some (.goto 7) := by decide +kernel
theorem i124_102 : xIns xg 124 102 = some (.aload_n 0) := by decide +kernel
theorem i124_103 : xIns xg 124 103 = some (.getfield 39) := by decide +kernel
theorem f124_39 : xFld xg 124 39 = some (7, 9) := by decide +kernel
theorem i179_0 : xIns xg 179 0 = some (.iload_n 1) := by decide +kernel
theorem i179_1 : xIns xg 179 1 = some (.invokestatic 403) := by decide +kernel
theorem l179_403 : xMth xg 179 403 = some (1, 149, 1, 0) := by decide +kernel
theorem i179_4 : xIns xg 179 4 = some (.ifCond .ne 6) := by decide +kernel
theorem i179_7 : xIns xg 179 7 = some (.bipush (-2)) := by decide +kernel
theorem i179_9 : xIns xg 179 9 = some (.ireturn) := by decide +kernel
theorem m179 : (xMet xg 179).2.2 = (5, (some .int)) := by decide +kernel
theorem i179_10 : xIns xg 179 10 = some (.aload_n 0) := by decide +kernel
theorem i179_11 : xIns xg 179 11 = some (.getfield 163) := by decide +kernel
theorem f179_163 : xFld xg 179 163 = some (7, 65) := by decide +kernel
theorem i179_14 : xIns xg 179 14 = some (.iload_n 1) := by decide +kernel
theorem i179_15 : xIns xg 179 15 = some (.baload) := by decide +kernel
theorem i179_16 : xIns xg 179 16 = some (.ifCond .ne 6) := by decide +kernel
theorem i179_19 : xIns xg 179 19 = some (.bipush (-11)) := by decide +kernel
theorem i179_21 : xIns xg 179 21 = some (.ireturn) := by decide +kernel
theorem i155_0 : xIns xg 155 0 = some (.iload_n 1) := by decide +kernel
theorem i155_1 : xIns xg 155 1 = some (.invokestatic 403) := by decide +kernel
theorem l155_403 : xMth xg 155 403 = some (1, 149, 1, 0) := by decide +kernel
theorem i155_4 : xIns xg 155 4 = some (.ifCond .eq 44) := by decide +kernel
theorem i155_48 : xIns xg 155 48 = some (.ldc2_w 285) := by decide +kernel
theorem c155_285 : xCon xg 155 285 = some (.long (-4611686018427387904)) := by decide +kernel
theorem i155_51 : xIns xg 155 51 = some (.lreturn) := by decide +kernel
theorem m155 : (xMet xg 155).2.2 = (3, (some .long)) := by decide +kernel
theorem i155_7 : xIns xg 155 7 = some (.aload_n 0) := by decide +kernel
theorem i155_8 : xIns xg 155 8 = some (.getfield 163) := by decide +kernel
theorem f155_163 : xFld xg 155 163 = some (7, 65) := by decide +kernel
theorem i155_11 : xIns xg 155 11 = some (.iload_n 1) := by decide +kernel
theorem i155_12 : xIns xg 155 12 = some (.baload) := by decide +kernel
theorem i155_13 : xIns xg 155 13 = some (.ifCond .eq 35) := by decide +kernel
theorem i123_0 : xIns xg 123 0 = some (.iload_n 1) := by decide +kernel
theorem i123_1 : xIns xg 123 1 = some (.invokestatic 403) := by decide +kernel
theorem l123_403 : xMth xg 123 403 = some (1, 149, 1, 0) := by decide +kernel
theorem i123_4 : xIns xg 123 4 = some (.ifCond .eq 10) := by decide +kernel
theorem i123_14 : xIns xg 123 14 = some (.bipush (-2)) := by decide +kernel
theorem i123_16 : xIns xg 123 16 = some (.ireturn) := by decide +kernel
theorem m123 : (xMet xg 123).2.2 = (9, (some .int)) := by decide +kernel
theorem i123_7 : xIns xg 123 7 = some (.iload_n 3) := by decide +kernel
theorem i123_8 : xIns xg 123 8 = some (.invokestatic 403) := by decide +kernel
theorem i123_11 : xIns xg 123 11 = some (.ifCond .ne 6) := by decide +kernel
theorem i123_17 : xIns xg 123 17 = some (.aload_n 0) := by decide +kernel
theorem i123_18 : xIns xg 123 18 = some (.getfield 163) := by decide +kernel
theorem f123_163 : xFld xg 123 163 = some (7, 65) := by decide +kernel
theorem i123_21 : xIns xg 123 21 = some (.iload_n 1) := by decide +kernel
theorem i123_22 : xIns xg 123 22 = some (.baload) := by decide +kernel
theorem i123_23 : xIns xg 123 23 = some (.ifCond .eq 12) := by decide +kernel
theorem i123_35 : xIns xg 123 35 = some (.bipush (-11)) := by decide +kernel
theorem i123_37 : xIns xg 123 37 = some (.ireturn) := by decide +kernel
theorem i160_0 : xIns xg 160 0 = some (.iload_n 1) := by decide +kernel
theorem i160_1 : xIns xg 160 1 = some (.invokestatic 403) := by decide +kernel
theorem l160_403 : xMth xg 160 403 = some (1, 149, 1, 0) := by decide +kernel
theorem i160_4 : xIns xg 160 4 = some (.ifCond .eq 35) := by decide +kernel
theorem i160_39 : xIns xg 160 39 = some (.bipush (-2)) := by decide +kernel
theorem i160_41 : xIns xg 160 41 = some (.ireturn) := by decide +kernel
theorem m160 : (xMet xg 160).2.2 = (8, (some .int)) := by decide +kernel
theorem i160_7 : xIns xg 160 7 = some (.iload_n 2) := by decide +kernel
theorem i160_8 : xIns xg 160 8 = some (.invokestatic 266) := by decide +kernel
theorem l160_266 : xMth xg 160 266 = some (1, 153, 1, 0) := by decide +kernel
theorem i160_11 : xIns xg 160 11 = some (.ifCond .eq 28) := by decide +kernel
theorem i160_14 : xIns xg 160 14 = some (.iload_n 3) := by decide +kernel
theorem i160_15 : xIns xg 160 15 = some (.i2l) := by decide +kernel
theorem i160_16 : xIns xg 160 16 = some (.lconst 0) := by decide +kernel
theorem i160_17 : xIns xg 160 17 = some (.ldc2_w 293) := by decide +kernel
theorem c160_293 : xCon xg 160 293 = some (.long (2)) := by decide +kernel
theorem i160_20 : xIns xg 160 20 = some (.invokestatic 177) := by decide +kernel
theorem l160_177 : xMth xg 160 177 = some (1, 142, 3, 0) := by decide +kernel
theorem i160_23 : xIns xg 160 23 = some (.ifCond .eq 16) := by decide +kernel
theorem i160_26 : xIns xg 160 26 = some (.iload 5) := by decide +kernel
theorem i160_28 : xIns xg 160 28 = some (.i2l) := by decide +kernel
theorem i160_29 : xIns xg 160 29 = some (.lconst 1) := by decide +kernel
theorem i160_30 : xIns xg 160 30 = some (.ldc2_w 429) := by decide +kernel
theorem c160_429 : xCon xg 160 429 = some (.long (8)) := by decide +kernel
theorem i160_33 : xIns xg 160 33 = some (.invokestatic 177) := by decide +kernel
theorem i160_36 : xIns xg 160 36 = some (.ifCond .ne 6) := by decide +kernel
theorem i160_42 : xIns xg 160 42 = some (.aload_n 0) := by decide +kernel
theorem i160_43 : xIns xg 160 43 = some (.getfield 163) := by decide +kernel
theorem f160_163 : xFld xg 160 163 = some (7, 65) := by decide +kernel
theorem i160_46 : xIns xg 160 46 = some (.iload_n 1) := by decide +kernel
theorem i160_47 : xIns xg 160 47 = some (.baload) := by decide +kernel
theorem i160_48 : xIns xg 160 48 = some (.ifCond .eq 16) := by decide +kernel
theorem i160_64 : xIns xg 160 64 = some (.aload_n 0) := by decide +kernel
theorem i160_65 : xIns xg 160 65 = some (.getfield 163) := by decide +kernel
theorem i160_68 : xIns xg 160 68 = some (.iload_n 1) := by decide +kernel
theorem i160_69 : xIns xg 160 69 = some (.baload) := by decide +kernel
theorem i160_70 : xIns xg 160 70 = some (.ifCond .ne 6) := by decide +kernel
theorem i160_73 : xIns xg 160 73 = some (.bipush (-11)) := by decide +kernel
theorem i160_75 : xIns xg 160 75 = some (.ireturn) := by decide +kernel
set_option maxHeartbeats 4000000 in
set_option maxRecDepth 100000 in
theorem r_film {sc : xS} {d : Nat} (f : Nat → xE) (a1 : Int32) (a2 : Int32) (a3 : Int32) : xT xg sc (d + 12) 132 0 [(0, .ref 77), (1, .int (a1)), (2, .int (a2)), (3, .int (a3))] [] (hM f) (fun r => r.1 = some (.int (sp_film a1 a2 a3)) ∧ r.2.2 = (0, 0)) := by
  refine wLin 1 i132_0 rfl rfl ?_
  refine jCall 4 [.int (a1)] [] [(0, .int (a1))] i132_1 rfl (xlk1 l132_403) (Or.inr (Or.inl rfl)) m149 rfl rfl (Nat.le_of_ble_eq_true rfl) (Nat.le_of_ble_eq_true rfl) (Nat.le_of_ble_eq_true rfl) rfl rfl rfl ?_
  refine wLin 1 i149_0 rfl rfl ?_
  refine wA 2 i149_1 rfl rfl rfl ?_
  refine wKl 3 0 i149_2 (by decide) rfl ?_
  refine wKd 6 3 i149_3 c149_272 rfl ?_
  refine jCall 9 [.long ((a1).toInt64), .long 0, .long 3] [] [(0, .long ((a1).toInt64)), (2, .long 0), (4, .long 3)] i149_6 rfl (xlk1 l149_177) (Or.inr (Or.inl rfl)) m142 rfl rfl (Nat.le_of_ble_eq_true rfl) (Nat.le_of_ble_eq_true rfl) (Nat.le_of_ble_eq_true rfl) rfl rfl rfl ?_
  refine wLln 1 i142_0 rfl rfl ?_
  refine wLln 2 i142_1 rfl rfl ?_
  refine wA 3 i142_2 rfl rfl rfl ?_
  by_cases c1 : (a1) < 0
  ·
    refine wZT 17 i142_3 rfl (decide_eq_true (wl_lt (l := 0) (by decide) c1)) ?_
    refine wK 18 0 i142_17 (by decide) rfl ?_
    refine jRi i142_18 m142 (by decide) ?_
    refine jRi i149_9 m149 (by decide) ?_
    refine wZT 26 i132_4 rfl (by decide) ?_
    refine wKb 28 (-2) i132_26 (by decide) rfl ?_
    refine wRi i132_28 m132 rfl ?_
    refine ⟨congrArg (fun z => some (Value.int z)) ?_, rfl⟩
    unfold sp_film
    repeat' split
    all_goals first | rfl | (exfalso; simp only [Int32.lt_iff_toInt_lt, Int32.le_iff_toInt_le, ← Int32.toInt_inj] at * <;> (simp at * <;> omega))
  ·
    refine wZF 17 6 i142_3 rfl (decide_eq_false (wl_nlt (l := 0) (by decide) c1)) rfl ?_
    refine wLln 7 i142_6 rfl rfl ?_
    refine wLl 9 i142_7 rfl rfl ?_
    refine wA 10 i142_9 rfl rfl rfl ?_
    by_cases c2 : 3 < (a1)
    ·
      refine wZT 17 i142_10 rfl (decide_eq_true (wl_gt (l := 3) (by decide) c2)) ?_
      refine wK 18 0 i142_17 (by decide) rfl ?_
      refine jRi i142_18 m142 (by decide) ?_
      refine jRi i149_9 m149 (by decide) ?_
      refine wZT 26 i132_4 rfl (by decide) ?_
      refine wKb 28 (-2) i132_26 (by decide) rfl ?_
      refine wRi i132_28 m132 rfl ?_
      refine ⟨congrArg (fun z => some (Value.int z)) ?_, rfl⟩
      unfold sp_film
      repeat' split
      all_goals first | rfl | (exfalso; simp only [Int32.lt_iff_toInt_lt, Int32.le_iff_toInt_le, ← Int32.toInt_inj] at * <;> (simp at * <;> omega))
    ·
      refine wZF 17 13 i142_10 rfl (decide_eq_false (wl_ngt (l := 3) (by decide) c2)) rfl ?_
      refine wK 14 1 i142_13 (by decide) rfl ?_
      refine wGo 18 i142_14 rfl ?_
      refine jRi i142_18 m142 (by decide) ?_
      refine jRi i149_9 m149 (by decide) ?_
      refine wZF 26 7 i132_4 rfl (by decide) rfl ?_
      refine wLin 8 i132_7 rfl rfl ?_
      refine jCall 11 [.int (a2)] [] [(0, .int (a2))] i132_8 rfl (xlk1 l132_266) (Or.inr (Or.inl rfl)) m153 rfl rfl (Nat.le_of_ble_eq_true rfl) (Nat.le_of_ble_eq_true rfl) (Nat.le_of_ble_eq_true rfl) rfl rfl rfl ?_
      refine wLin 1 i153_0 rfl rfl ?_
      refine wA 2 i153_1 rfl rfl rfl ?_
      refine wKl 3 0 i153_2 (by decide) rfl ?_
      refine wKd 6 7 i153_3 c153_175 rfl ?_
      refine jCall 9 [.long ((a2).toInt64), .long 0, .long 7] [] [(0, .long ((a2).toInt64)), (2, .long 0), (4, .long 7)] i153_6 rfl (xlk1 l153_177) (Or.inr (Or.inl rfl)) m142 rfl rfl (Nat.le_of_ble_eq_true rfl) (Nat.le_of_ble_eq_true rfl) (Nat.le_of_ble_eq_true rfl) rfl rfl rfl ?_
      refine wLln 1 i142_0 rfl rfl ?_
      refine wLln 2 i142_1 rfl rfl ?_
      refine wA 3 i142_2 rfl rfl rfl ?_
      by_cases c3 : (a2) < 0
      ·
        refine wZT 17 i142_3 rfl (decide_eq_true (wl_lt (l := 0) (by decide) c3)) ?_
        refine wK 18 0 i142_17 (by decide) rfl ?_
        refine jRi i142_18 m142 (by decide) ?_
        refine jRi i153_9 m153 (by decide) ?_
        refine wZT 26 i132_11 rfl (by decide) ?_
        refine wKb 28 (-2) i132_26 (by decide) rfl ?_
        refine wRi i132_28 m132 rfl ?_
        refine ⟨congrArg (fun z => some (Value.int z)) ?_, rfl⟩
        unfold sp_film
        repeat' split
        all_goals first | rfl | (exfalso; simp only [Int32.lt_iff_toInt_lt, Int32.le_iff_toInt_le, ← Int32.toInt_inj] at * <;> (simp at * <;> omega))
      ·
        refine wZF 17 6 i142_3 rfl (decide_eq_false (wl_nlt (l := 0) (by decide) c3)) rfl ?_
        refine wLln 7 i142_6 rfl rfl ?_
        refine wLl 9 i142_7 rfl rfl ?_
        refine wA 10 i142_9 rfl rfl rfl ?_
        by_cases c4 : 7 < (a2)
        ·
          refine wZT 17 i142_10 rfl (decide_eq_true (wl_gt (l := 7) (by decide) c4)) ?_
          refine wK 18 0 i142_17 (by decide) rfl ?_
          refine jRi i142_18 m142 (by decide) ?_
          refine jRi i153_9 m153 (by decide) ?_
          refine wZT 26 i132_11 rfl (by decide) ?_
          refine wKb 28 (-2) i132_26 (by decide) rfl ?_
          refine wRi i132_28 m132 rfl ?_
          refine ⟨congrArg (fun z => some (Value.int z)) ?_, rfl⟩
          unfold sp_film
          repeat' split
          all_goals first | rfl | (exfalso; simp only [Int32.lt_iff_toInt_lt, Int32.le_iff_toInt_le, ← Int32.toInt_inj] at * <;> (simp at * <;> omega))
        ·
          refine wZF 17 13 i142_10 rfl (decide_eq_false (wl_ngt (l := 7) (by decide) c4)) rfl ?_
          refine wK 14 1 i142_13 (by decide) rfl ?_
          refine wGo 18 i142_14 rfl ?_
          refine jRi i142_18 m142 (by decide) ?_
          refine jRi i153_9 m153 (by decide) ?_
          refine wZF 26 14 i132_11 rfl (by decide) rfl ?_
          refine wLin 15 i132_14 rfl rfl ?_
          refine wA 16 i132_15 rfl rfl rfl ?_
          refine wKl 17 0 i132_16 (by decide) rfl ?_
          refine wKd 20 16 i132_17 c132_406 rfl ?_
          refine jCall 23 [.long ((a3).toInt64), .long 0, .long 16] [] [(0, .long ((a3).toInt64)), (2, .long 0), (4, .long 16)] i132_20 rfl (xlk1 l132_177) (Or.inr (Or.inl rfl)) m142 rfl rfl (Nat.le_of_ble_eq_true rfl) (Nat.le_of_ble_eq_true rfl) (Nat.le_of_ble_eq_true rfl) rfl rfl rfl ?_
          refine wLln 1 i142_0 rfl rfl ?_
          refine wLln 2 i142_1 rfl rfl ?_
          refine wA 3 i142_2 rfl rfl rfl ?_
          by_cases c5 : (a3) < 0
          ·
            refine wZT 17 i142_3 rfl (decide_eq_true (wl_lt (l := 0) (by decide) c5)) ?_
            refine wK 18 0 i142_17 (by decide) rfl ?_
            refine jRi i142_18 m142 (by decide) ?_
            refine wZF 29 26 i132_23 rfl (by decide) rfl ?_
            refine wKb 28 (-2) i132_26 (by decide) rfl ?_
            refine wRi i132_28 m132 rfl ?_
            refine ⟨congrArg (fun z => some (Value.int z)) ?_, rfl⟩
            unfold sp_film
            repeat' split
            all_goals first | rfl | (exfalso; simp only [Int32.lt_iff_toInt_lt, Int32.le_iff_toInt_le, ← Int32.toInt_inj] at * <;> (simp at * <;> omega))
          ·
            refine wZF 17 6 i142_3 rfl (decide_eq_false (wl_nlt (l := 0) (by decide) c5)) rfl ?_
            refine wLln 7 i142_6 rfl rfl ?_
            refine wLl 9 i142_7 rfl rfl ?_
            refine wA 10 i142_9 rfl rfl rfl ?_
            by_cases c6 : 16 < (a3)
            ·
              refine wZT 17 i142_10 rfl (decide_eq_true (wl_gt (l := 16) (by decide) c6)) ?_
              refine wK 18 0 i142_17 (by decide) rfl ?_
              refine jRi i142_18 m142 (by decide) ?_
              refine wZF 29 26 i132_23 rfl (by decide) rfl ?_
              refine wKb 28 (-2) i132_26 (by decide) rfl ?_
              refine wRi i132_28 m132 rfl ?_
              refine ⟨congrArg (fun z => some (Value.int z)) ?_, rfl⟩
              unfold sp_film
              repeat' split
              all_goals first | rfl | (exfalso; simp only [Int32.lt_iff_toInt_lt, Int32.le_iff_toInt_le, ← Int32.toInt_inj] at * <;> (simp at * <;> omega))
            ·
              refine wZF 17 13 i142_10 rfl (decide_eq_false (wl_ngt (l := 16) (by decide) c6)) rfl ?_
              refine wK 14 1 i142_13 (by decide) rfl ?_
              refine wGo 18 i142_14 rfl ?_
              refine jRi i142_18 m142 (by decide) ?_
              refine wZT 29 i132_23 rfl (by decide) ?_
              refine wLan 30 i132_29 rfl rfl ?_
              refine wGet 33 (.ref 78) i132_30 f132_13 rfl rfl rfl ?_
              refine wLin 34 i132_33 rfl rfl ?_
              refine wIal 35 i132_34 rfl (x_ib (Int32.not_lt.mp c3) (Int32.not_lt.mp c4) (by decide) (by decide)) rfl ?_
              refine tTop (v := 0) rfl ?_
              refine wZF 41 38 i132_35 rfl (by decide) rfl ?_
              refine wKb 40 (-3) i132_38 (by decide) rfl ?_
              refine wRi i132_40 m132 rfl ?_
              refine ⟨congrArg (fun z => some (Value.int z)) ?_, rfl⟩
              unfold sp_film
              repeat' split
              all_goals first | rfl | (exfalso; simp only [Int32.lt_iff_toInt_lt, Int32.le_iff_toInt_le, ← Int32.toInt_inj] at * <;> (simp at * <;> omega))
set_option maxHeartbeats 4000000 in
set_option maxRecDepth 100000 in
theorem r_tells {sc : xS} {d : Nat} (f : Nat → xE) (a1 : Int32) (a2 : Int32) (a3 : Int32) : xT xg sc (d + 12) 187 0 [(0, .ref 77), (1, .int (a1)), (2, .int (a2)), (3, .int (a3))] [] (hM f) (fun r => r.1 = some (.int (sp_tells a1 a2 a3)) ∧ r.2.2 = (0, 0)) := by
  refine wLin 1 i187_0 rfl rfl ?_
  refine jCall 4 [.int (a1)] [] [(0, .int (a1))] i187_1 rfl (xlk1 l187_403) (Or.inr (Or.inl rfl)) m149 rfl rfl (Nat.le_of_ble_eq_true rfl) (Nat.le_of_ble_eq_true rfl) (Nat.le_of_ble_eq_true rfl) rfl rfl rfl ?_
  refine wLin 1 i149_0 rfl rfl ?_
  refine wA 2 i149_1 rfl rfl rfl ?_
  refine wKl 3 0 i149_2 (by decide) rfl ?_
  refine wKd 6 3 i149_3 c149_272 rfl ?_
  refine jCall 9 [.long ((a1).toInt64), .long 0, .long 3] [] [(0, .long ((a1).toInt64)), (2, .long 0), (4, .long 3)] i149_6 rfl (xlk1 l149_177) (Or.inr (Or.inl rfl)) m142 rfl rfl (Nat.le_of_ble_eq_true rfl) (Nat.le_of_ble_eq_true rfl) (Nat.le_of_ble_eq_true rfl) rfl rfl rfl ?_
  refine wLln 1 i142_0 rfl rfl ?_
  refine wLln 2 i142_1 rfl rfl ?_
  refine wA 3 i142_2 rfl rfl rfl ?_
  by_cases c1 : (a1) < 0
  ·
    refine wZT 17 i142_3 rfl (decide_eq_true (wl_lt (l := 0) (by decide) c1)) ?_
    refine wK 18 0 i142_17 (by decide) rfl ?_
    refine jRi i142_18 m142 (by decide) ?_
    refine jRi i149_9 m149 (by decide) ?_
    refine wZT 30 i187_4 rfl (by decide) ?_
    refine wKb 32 (-2) i187_30 (by decide) rfl ?_
    refine wRi i187_32 m187 rfl ?_
    refine ⟨congrArg (fun z => some (Value.int z)) ?_, rfl⟩
    unfold sp_tells
    repeat' split
    all_goals first | rfl | (exfalso; simp only [Int32.lt_iff_toInt_lt, Int32.le_iff_toInt_le, ← Int32.toInt_inj] at * <;> (simp at * <;> omega))
  ·
    refine wZF 17 6 i142_3 rfl (decide_eq_false (wl_nlt (l := 0) (by decide) c1)) rfl ?_
    refine wLln 7 i142_6 rfl rfl ?_
    refine wLl 9 i142_7 rfl rfl ?_
    refine wA 10 i142_9 rfl rfl rfl ?_
    by_cases c2 : 3 < (a1)
    ·
      refine wZT 17 i142_10 rfl (decide_eq_true (wl_gt (l := 3) (by decide) c2)) ?_
      refine wK 18 0 i142_17 (by decide) rfl ?_
      refine jRi i142_18 m142 (by decide) ?_
      refine jRi i149_9 m149 (by decide) ?_
      refine wZT 30 i187_4 rfl (by decide) ?_
      refine wKb 32 (-2) i187_30 (by decide) rfl ?_
      refine wRi i187_32 m187 rfl ?_
      refine ⟨congrArg (fun z => some (Value.int z)) ?_, rfl⟩
      unfold sp_tells
      repeat' split
      all_goals first | rfl | (exfalso; simp only [Int32.lt_iff_toInt_lt, Int32.le_iff_toInt_le, ← Int32.toInt_inj] at * <;> (simp at * <;> omega))
    ·
      refine wZF 17 13 i142_10 rfl (decide_eq_false (wl_ngt (l := 3) (by decide) c2)) rfl ?_
      refine wK 14 1 i142_13 (by decide) rfl ?_
      refine wGo 18 i142_14 rfl ?_
      refine jRi i142_18 m142 (by decide) ?_
      refine jRi i149_9 m149 (by decide) ?_
      refine wZF 30 7 i187_4 rfl (by decide) rfl ?_
      refine wLin 8 i187_7 rfl rfl ?_
      refine jCall 11 [.int (a2)] [] [(0, .int (a2))] i187_8 rfl (xlk1 l187_266) (Or.inr (Or.inl rfl)) m153 rfl rfl (Nat.le_of_ble_eq_true rfl) (Nat.le_of_ble_eq_true rfl) (Nat.le_of_ble_eq_true rfl) rfl rfl rfl ?_
      refine wLin 1 i153_0 rfl rfl ?_
      refine wA 2 i153_1 rfl rfl rfl ?_
      refine wKl 3 0 i153_2 (by decide) rfl ?_
      refine wKd 6 7 i153_3 c153_175 rfl ?_
      refine jCall 9 [.long ((a2).toInt64), .long 0, .long 7] [] [(0, .long ((a2).toInt64)), (2, .long 0), (4, .long 7)] i153_6 rfl (xlk1 l153_177) (Or.inr (Or.inl rfl)) m142 rfl rfl (Nat.le_of_ble_eq_true rfl) (Nat.le_of_ble_eq_true rfl) (Nat.le_of_ble_eq_true rfl) rfl rfl rfl ?_
      refine wLln 1 i142_0 rfl rfl ?_
      refine wLln 2 i142_1 rfl rfl ?_
      refine wA 3 i142_2 rfl rfl rfl ?_
      by_cases c3 : (a2) < 0
      ·
        refine wZT 17 i142_3 rfl (decide_eq_true (wl_lt (l := 0) (by decide) c3)) ?_
        refine wK 18 0 i142_17 (by decide) rfl ?_
        refine jRi i142_18 m142 (by decide) ?_
        refine jRi i153_9 m153 (by decide) ?_
        refine wZT 30 i187_11 rfl (by decide) ?_
        refine wKb 32 (-2) i187_30 (by decide) rfl ?_
        refine wRi i187_32 m187 rfl ?_
        refine ⟨congrArg (fun z => some (Value.int z)) ?_, rfl⟩
        unfold sp_tells
        repeat' split
        all_goals first | rfl | (exfalso; simp only [Int32.lt_iff_toInt_lt, Int32.le_iff_toInt_le, ← Int32.toInt_inj] at * <;> (simp at * <;> omega))
      ·
        refine wZF 17 6 i142_3 rfl (decide_eq_false (wl_nlt (l := 0) (by decide) c3)) rfl ?_
        refine wLln 7 i142_6 rfl rfl ?_
        refine wLl 9 i142_7 rfl rfl ?_
        refine wA 10 i142_9 rfl rfl rfl ?_
        by_cases c4 : 7 < (a2)
        ·
          refine wZT 17 i142_10 rfl (decide_eq_true (wl_gt (l := 7) (by decide) c4)) ?_
          refine wK 18 0 i142_17 (by decide) rfl ?_
          refine jRi i142_18 m142 (by decide) ?_
          refine jRi i153_9 m153 (by decide) ?_
          refine wZT 30 i187_11 rfl (by decide) ?_
          refine wKb 32 (-2) i187_30 (by decide) rfl ?_
          refine wRi i187_32 m187 rfl ?_
          refine ⟨congrArg (fun z => some (Value.int z)) ?_, rfl⟩
          unfold sp_tells
          repeat' split
          all_goals first | rfl | (exfalso; simp only [Int32.lt_iff_toInt_lt, Int32.le_iff_toInt_le, ← Int32.toInt_inj] at * <;> (simp at * <;> omega))
        ·
          refine wZF 17 13 i142_10 rfl (decide_eq_false (wl_ngt (l := 7) (by decide) c4)) rfl ?_
          refine wK 14 1 i142_13 (by decide) rfl ?_
          refine wGo 18 i142_14 rfl ?_
          refine jRi i142_18 m142 (by decide) ?_
          refine jRi i153_9 m153 (by decide) ?_
          refine wZF 30 14 i187_11 rfl (by decide) rfl ?_
          refine wLin 15 i187_14 rfl rfl ?_
          by_cases c5 : (a3) = 0
          ·
            refine wZT 33 i187_15 rfl (decide_eq_true c5) ?_
            subst c5
            refine wLan 34 i187_33 rfl rfl ?_
            refine wGet 37 (.ref 78) i187_34 f187_13 rfl rfl rfl ?_
            refine wLin 38 i187_37 rfl rfl ?_
            refine wIal 39 i187_38 rfl (x_ib (Int32.not_lt.mp c3) (Int32.not_lt.mp c4) (by decide) (by decide)) rfl ?_
            refine tTop (v := 0) rfl ?_
            refine wZF 45 42 i187_39 rfl (by decide) rfl ?_
            refine wKb 44 (-3) i187_42 (by decide) rfl ?_
            refine wRi i187_44 m187 rfl ?_
            refine ⟨congrArg (fun z => some (Value.int z)) ?_, rfl⟩
            unfold sp_tells
            repeat' split
            all_goals first | rfl | (exfalso; simp only [Int32.lt_iff_toInt_lt, Int32.le_iff_toInt_le, ← Int32.toInt_inj] at * <;> (simp at * <;> omega))
          ·
            refine wZF 33 18 i187_15 rfl (decide_eq_false c5) rfl ?_
            refine wLin 19 i187_18 rfl rfl ?_
            refine wK 20 4 i187_19 (by decide) rfl ?_
            by_cases c6 : (a3) < 4
            ·
              refine wCT 30 i187_20 rfl (decide_eq_true c6) ?_
              refine wKb 32 (-2) i187_30 (by decide) rfl ?_
              refine wRi i187_32 m187 rfl ?_
              refine ⟨congrArg (fun z => some (Value.int z)) ?_, rfl⟩
              unfold sp_tells
              repeat' split
              all_goals first | rfl | (exfalso; simp only [Int32.lt_iff_toInt_lt, Int32.le_iff_toInt_le, ← Int32.toInt_inj] at * <;> (simp at * <;> omega))
            ·
              refine wCF 30 23 i187_20 rfl (decide_eq_false c6) rfl ?_
              refine wLin 24 i187_23 rfl rfl ?_
              refine wK 25 4 i187_24 (by decide) rfl ?_
              refine wRem 26 i187_25 (by decide) rfl ?_
              refine wK 27 1 i187_26 (by decide) rfl ?_
              by_cases c7 : ((a3) - (a3) / 4 * 4) ≤ 1
              ·
                refine wCT 33 i187_27 rfl (decide_eq_true c7) ?_
                refine wLan 34 i187_33 rfl rfl ?_
                refine wGet 37 (.ref 78) i187_34 f187_13 rfl rfl rfl ?_
                refine wLin 38 i187_37 rfl rfl ?_
                refine wIal 39 i187_38 rfl (x_ib (Int32.not_lt.mp c3) (Int32.not_lt.mp c4) (by decide) (by decide)) rfl ?_
                refine tTop (v := 0) rfl ?_
                refine wZF 45 42 i187_39 rfl (by decide) rfl ?_
                refine wKb 44 (-3) i187_42 (by decide) rfl ?_
                refine wRi i187_44 m187 rfl ?_
                refine ⟨congrArg (fun z => some (Value.int z)) ?_, rfl⟩
                unfold sp_tells
                repeat' split
                all_goals first | rfl | (exfalso; simp only [Int32.lt_iff_toInt_lt, Int32.le_iff_toInt_le, ← Int32.toInt_inj] at * <;> (simp at * <;> omega))
              ·
                refine wCF 33 30 i187_27 rfl (decide_eq_false c7) rfl ?_
                refine wKb 32 (-2) i187_30 (by decide) rfl ?_
                refine wRi i187_32 m187 rfl ?_
                refine ⟨congrArg (fun z => some (Value.int z)) ?_, rfl⟩
                unfold sp_tells
                repeat' split
                all_goals first | rfl | (exfalso; simp only [Int32.lt_iff_toInt_lt, Int32.le_iff_toInt_le, ← Int32.toInt_inj] at * <;> (simp at * <;> omega))
set_option maxHeartbeats 4000000 in
set_option maxRecDepth 100000 in
theorem r_image {sc : xS} {d : Nat} (f : Nat → xE)  : xT xg sc (d + 12) 141 0 [(0, .ref 77)] [] (hM f) (fun r => r.1 = some (.int (sp_image )) ∧ r.2.2 = (0, 0)) := by
  refine wK 1 0 i141_0 (by decide) rfl ?_
  refine wSin 2 [(1, .int 0), (0, .ref 77)] i141_1 m141 (by decide) rfl rfl ?_
  refine m_im1 f 8 0 0 rfl rfl ?_
  refine wK 27 0 i141_26 (by decide) rfl ?_
  refine wSin 28 [(1, .int 0), (0, .ref 77)] i141_27 m141 (by decide) rfl rfl ?_
  refine m_im2 f 192 0 0 rfl rfl ?_
  refine wK 162 0 i141_161 (by decide) rfl ?_
  refine wSin 163 [(1, .int 0), (0, .ref 77)] i141_162 m141 (by decide) rfl rfl ?_
  refine m_im3 f 1536 0 0 rfl rfl ?_
  refine wK 189 0 i141_188 (by decide) rfl ?_
  refine wSin 190 [(1, .int 0), (0, .ref 77)] i141_189 m141 (by decide) rfl rfl ?_
  refine m_im4 f 12288 0 0 rfl rfl ?_
  refine wLan 240 i141_239 rfl rfl ?_
  refine wLan 241 i141_240 rfl rfl ?_
  refine wGet 244 (.int 99) i141_241 f141_39 rfl rfl rfl ?_
  refine wPut 247 i141_244 p141_416 rfl (by decide) rfl rfl rfl ?_
  refine wLan 248 i141_247 rfl rfl ?_
  refine wK 249 1 i141_248 (by decide) rfl ?_
  refine wPut 252 i141_249 p141_419 rfl (by decide) rfl rfl rfl ?_
  refine wLan 253 i141_252 rfl rfl ?_
  refine jCall 256 [.ref 77] [] [(0, .ref 77)] i141_253 rfl (xlk0 l141_422) (Or.inl rfl) m136 rfl rfl (Nat.le_of_ble_eq_true rfl) (Nat.le_of_ble_eq_true rfl) (Nat.le_of_ble_eq_true rfl) rfl rfl rfl ?_
  refine wK 1 0 i136_0 (by decide) rfl ?_
  refine wSin 2 [(1, .int 0), (0, .ref 77)] i136_1 m136 (by decide) rfl rfl ?_
  refine wK 3 0 i136_2 (by decide) rfl ?_
  refine wSin 4 [(2, .int 0), (1, .int 0), (0, .ref 77)] i136_3 m136 (by decide) rfl rfl ?_
  refine wLin 5 i136_4 rfl rfl ?_
  refine wKb 7 8 i136_5 (by decide) rfl ?_
  refine wCF 33 10 i136_7 rfl (by decide) rfl ?_
  refine wLin 11 i136_10 rfl rfl ?_
  refine wLan 12 i136_11 rfl rfl ?_
  refine wGet 15 (.ref 78) i136_12 f136_13 rfl rfl rfl ?_
  refine wLin 16 i136_15 rfl rfl ?_
  refine wIal 17 i136_16 rfl (by decide) rfl ?_
  refine tTop (v := 0) rfl ?_
  refine wZT 24 i136_17 rfl (by decide) ?_
  refine wK 25 0 i136_24 (by decide) rfl ?_
  refine wA 26 i136_25 rfl rfl rfl ?_
  refine tTop (v := 0) (by decide) ?_
  refine wSin 27 [(1, .int 0), (2, .int 0), (0, .ref 77)] i136_26 m136 (by decide) rfl rfl ?_
  refine wInc 30 [(2, .int 1), (1, .int 0), (0, .ref 77)] 1 i136_27 m136 (by decide) rfl (by decide) rfl rfl ?_
  refine wGo 4 i136_30 rfl ?_
  refine wLin 5 i136_4 rfl rfl ?_
  refine wKb 7 8 i136_5 (by decide) rfl ?_
  refine wCF 33 10 i136_7 rfl (by decide) rfl ?_
  refine wLin 11 i136_10 rfl rfl ?_
  refine wLan 12 i136_11 rfl rfl ?_
  refine wGet 15 (.ref 78) i136_12 f136_13 rfl rfl rfl ?_
  refine wLin 16 i136_15 rfl rfl ?_
  refine wIal 17 i136_16 rfl (by decide) rfl ?_
  refine tTop (v := 0) rfl ?_
  refine wZT 24 i136_17 rfl (by decide) ?_
  refine wK 25 0 i136_24 (by decide) rfl ?_
  refine wA 26 i136_25 rfl rfl rfl ?_
  refine tTop (v := 0) (by decide) ?_
  refine wSin 27 [(1, .int 0), (2, .int 1), (0, .ref 77)] i136_26 m136 (by decide) rfl rfl ?_
  refine wInc 30 [(2, .int 2), (1, .int 0), (0, .ref 77)] 2 i136_27 m136 (by decide) rfl (by decide) rfl rfl ?_
  refine wGo 4 i136_30 rfl ?_
  refine wLin 5 i136_4 rfl rfl ?_
  refine wKb 7 8 i136_5 (by decide) rfl ?_
  refine wCF 33 10 i136_7 rfl (by decide) rfl ?_
  refine wLin 11 i136_10 rfl rfl ?_
  refine wLan 12 i136_11 rfl rfl ?_
  refine wGet 15 (.ref 78) i136_12 f136_13 rfl rfl rfl ?_
  refine wLin 16 i136_15 rfl rfl ?_
  refine wIal 17 i136_16 rfl (by decide) rfl ?_
  refine tTop (v := 0) rfl ?_
  refine wZT 24 i136_17 rfl (by decide) ?_
  refine wK 25 0 i136_24 (by decide) rfl ?_
  refine wA 26 i136_25 rfl rfl rfl ?_
  refine tTop (v := 0) (by decide) ?_
  refine wSin 27 [(1, .int 0), (2, .int 2), (0, .ref 77)] i136_26 m136 (by decide) rfl rfl ?_
  refine wInc 30 [(2, .int 3), (1, .int 0), (0, .ref 77)] 3 i136_27 m136 (by decide) rfl (by decide) rfl rfl ?_
  refine wGo 4 i136_30 rfl ?_
  refine wLin 5 i136_4 rfl rfl ?_
  refine wKb 7 8 i136_5 (by decide) rfl ?_
  refine wCF 33 10 i136_7 rfl (by decide) rfl ?_
  refine wLin 11 i136_10 rfl rfl ?_
  refine wLan 12 i136_11 rfl rfl ?_
  refine wGet 15 (.ref 78) i136_12 f136_13 rfl rfl rfl ?_
  refine wLin 16 i136_15 rfl rfl ?_
  refine wIal 17 i136_16 rfl (by decide) rfl ?_
  refine tTop (v := 0) rfl ?_
  refine wZT 24 i136_17 rfl (by decide) ?_
  refine wK 25 0 i136_24 (by decide) rfl ?_
  refine wA 26 i136_25 rfl rfl rfl ?_
  refine tTop (v := 0) (by decide) ?_
  refine wSin 27 [(1, .int 0), (2, .int 3), (0, .ref 77)] i136_26 m136 (by decide) rfl rfl ?_
  refine wInc 30 [(2, .int 4), (1, .int 0), (0, .ref 77)] 4 i136_27 m136 (by decide) rfl (by decide) rfl rfl ?_
  refine wGo 4 i136_30 rfl ?_
  refine wLin 5 i136_4 rfl rfl ?_
  refine wKb 7 8 i136_5 (by decide) rfl ?_
  refine wCF 33 10 i136_7 rfl (by decide) rfl ?_
  refine wLin 11 i136_10 rfl rfl ?_
  refine wLan 12 i136_11 rfl rfl ?_
  refine wGet 15 (.ref 78) i136_12 f136_13 rfl rfl rfl ?_
  refine wLin 16 i136_15 rfl rfl ?_
  refine wIal 17 i136_16 rfl (by decide) rfl ?_
  refine tTop (v := 0) rfl ?_
  refine wZT 24 i136_17 rfl (by decide) ?_
  refine wK 25 0 i136_24 (by decide) rfl ?_
  refine wA 26 i136_25 rfl rfl rfl ?_
  refine tTop (v := 0) (by decide) ?_
  refine wSin 27 [(1, .int 0), (2, .int 4), (0, .ref 77)] i136_26 m136 (by decide) rfl rfl ?_
  refine wInc 30 [(2, .int 5), (1, .int 0), (0, .ref 77)] 5 i136_27 m136 (by decide) rfl (by decide) rfl rfl ?_
  refine wGo 4 i136_30 rfl ?_
  refine wLin 5 i136_4 rfl rfl ?_
  refine wKb 7 8 i136_5 (by decide) rfl ?_
  refine wCF 33 10 i136_7 rfl (by decide) rfl ?_
  refine wLin 11 i136_10 rfl rfl ?_
  refine wLan 12 i136_11 rfl rfl ?_
  refine wGet 15 (.ref 78) i136_12 f136_13 rfl rfl rfl ?_
  refine wLin 16 i136_15 rfl rfl ?_
  refine wIal 17 i136_16 rfl (by decide) rfl ?_
  refine tTop (v := 0) rfl ?_
  refine wZT 24 i136_17 rfl (by decide) ?_
  refine wK 25 0 i136_24 (by decide) rfl ?_
  refine wA 26 i136_25 rfl rfl rfl ?_
  refine tTop (v := 0) (by decide) ?_
  refine wSin 27 [(1, .int 0), (2, .int 5), (0, .ref 77)] i136_26 m136 (by decide) rfl rfl ?_
  refine wInc 30 [(2, .int 6), (1, .int 0), (0, .ref 77)] 6 i136_27 m136 (by decide) rfl (by decide) rfl rfl ?_
  refine wGo 4 i136_30 rfl ?_
  refine wLin 5 i136_4 rfl rfl ?_
  refine wKb 7 8 i136_5 (by decide) rfl ?_
  refine wCF 33 10 i136_7 rfl (by decide) rfl ?_
  refine wLin 11 i136_10 rfl rfl ?_
  refine wLan 12 i136_11 rfl rfl ?_
  refine wGet 15 (.ref 78) i136_12 f136_13 rfl rfl rfl ?_
  refine wLin 16 i136_15 rfl rfl ?_
  refine wIal 17 i136_16 rfl (by decide) rfl ?_
  refine tTop (v := 0) rfl ?_
  refine wZT 24 i136_17 rfl (by decide) ?_
  refine wK 25 0 i136_24 (by decide) rfl ?_
  refine wA 26 i136_25 rfl rfl rfl ?_
  refine tTop (v := 0) (by decide) ?_
  refine wSin 27 [(1, .int 0), (2, .int 6), (0, .ref 77)] i136_26 m136 (by decide) rfl rfl ?_
  refine wInc 30 [(2, .int 7), (1, .int 0), (0, .ref 77)] 7 i136_27 m136 (by decide) rfl (by decide) rfl rfl ?_
  refine wGo 4 i136_30 rfl ?_
  refine wLin 5 i136_4 rfl rfl ?_
  refine wKb 7 8 i136_5 (by decide) rfl ?_
  refine wCF 33 10 i136_7 rfl (by decide) rfl ?_
  refine wLin 11 i136_10 rfl rfl ?_
  refine wLan 12 i136_11 rfl rfl ?_
  refine wGet 15 (.ref 78) i136_12 f136_13 rfl rfl rfl ?_
  refine wLin 16 i136_15 rfl rfl ?_
  refine wIal 17 i136_16 rfl (by decide) rfl ?_
  refine tTop (v := 0) rfl ?_
  refine wZT 24 i136_17 rfl (by decide) ?_
  refine wK 25 0 i136_24 (by decide) rfl ?_
  refine wA 26 i136_25 rfl rfl rfl ?_
  refine tTop (v := 0) (by decide) ?_
  refine wSin 27 [(1, .int 0), (2, .int 7), (0, .ref 77)] i136_26 m136 (by decide) rfl rfl ?_
  refine wInc 30 [(2, .int 8), (1, .int 0), (0, .ref 77)] 8 i136_27 m136 (by decide) rfl (by decide) rfl rfl ?_
  refine wGo 4 i136_30 rfl ?_
  refine wLin 5 i136_4 rfl rfl ?_
  refine wKb 7 8 i136_5 (by decide) rfl ?_
  refine wCT 33 i136_7 rfl (by decide) ?_
  refine wLin 34 i136_33 rfl rfl ?_
  refine jRi i136_34 m136 rfl ?_
  refine wRi i141_256 m141 rfl ?_
  refine ⟨congrArg (fun z => some (Value.int z)) ?_, rfl⟩
  unfold sp_image
  repeat' split
  all_goals first | rfl | (exfalso; simp only [Int32.lt_iff_toInt_lt, Int32.le_iff_toInt_le, ← Int32.toInt_inj] at * <;> (simp at * <;> omega))
set_option maxHeartbeats 4000000 in
set_option maxRecDepth 100000 in
theorem r_back {sc : xS} {d : Nat} (f : Nat → xE)  : xT xg sc (d + 12) 120 0 [(0, .ref 77)] [] (hM f) (fun r => r.1 = some (.int (sp_back )) ∧ r.2.2 = (0, 0)) := by
  refine wLan 1 i120_0 rfl rfl ?_
  refine wGet 4 (.int 0) i120_1 f120_419 rfl rfl rfl ?_
  refine wZF 10 7 i120_4 rfl (by decide) rfl ?_
  refine wKb 9 (-3) i120_7 (by decide) rfl ?_
  refine wRi i120_9 m120 rfl ?_
  refine ⟨congrArg (fun z => some (Value.int z)) ?_, rfl⟩
  unfold sp_back
  repeat' split
  all_goals first | rfl | (exfalso; simp only [Int32.lt_iff_toInt_lt, Int32.le_iff_toInt_le, ← Int32.toInt_inj] at * <;> (simp at * <;> omega))
set_option maxHeartbeats 4000000 in
set_option maxRecDepth 100000 in
theorem r_count {sc : xS} {d : Nat} (f : Nat → xE) (a1 : Int32) : xT xg sc (d + 12) 124 0 [(0, .ref 77), (1, .int (a1))] [] (hM f) (fun r => r.1 = some (.int (sp_count a1)) ∧ r.2.2 = (0, 0)) := by
  refine wLin 1 i124_0 rfl rfl ?_
  refine wA 2 i124_1 rfl rfl rfl ?_
  refine wKl 3 0 i124_2 (by decide) rfl ?_
  refine wKd 6 6 i124_3 c124_425 rfl ?_
  refine jCall 9 [.long ((a1).toInt64), .long 0, .long 6] [] [(0, .long ((a1).toInt64)), (2, .long 0), (4, .long 6)] i124_6 rfl (xlk1 l124_177) (Or.inr (Or.inl rfl)) m142 rfl rfl (Nat.le_of_ble_eq_true rfl) (Nat.le_of_ble_eq_true rfl) (Nat.le_of_ble_eq_true rfl) rfl rfl rfl ?_
  refine wLln 1 i142_0 rfl rfl ?_
  refine wLln 2 i142_1 rfl rfl ?_
  refine wA 3 i142_2 rfl rfl rfl ?_
  by_cases c1 : (a1) < 0
  ·
    refine wZT 17 i142_3 rfl (decide_eq_true (wl_lt (l := 0) (by decide) c1)) ?_
    refine wK 18 0 i142_17 (by decide) rfl ?_
    refine jRi i142_18 m142 (by decide) ?_
    refine wZF 15 12 i124_9 rfl (by decide) rfl ?_
    refine wKb 14 (-2) i124_12 (by decide) rfl ?_
    refine wRi i124_14 m124 rfl ?_
    refine ⟨congrArg (fun z => some (Value.int z)) ?_, rfl⟩
    unfold sp_count
    repeat' split
    all_goals first | rfl | (exfalso; simp only [Int32.lt_iff_toInt_lt, Int32.le_iff_toInt_le, ← Int32.toInt_inj] at * <;> (simp at * <;> omega))
  ·
    refine wZF 17 6 i142_3 rfl (decide_eq_false (wl_nlt (l := 0) (by decide) c1)) rfl ?_
    refine wLln 7 i142_6 rfl rfl ?_
    refine wLl 9 i142_7 rfl rfl ?_
    refine wA 10 i142_9 rfl rfl rfl ?_
    by_cases c2 : 6 < (a1)
    ·
      refine wZT 17 i142_10 rfl (decide_eq_true (wl_gt (l := 6) (by decide) c2)) ?_
      refine wK 18 0 i142_17 (by decide) rfl ?_
      refine jRi i142_18 m142 (by decide) ?_
      refine wZF 15 12 i124_9 rfl (by decide) rfl ?_
      refine wKb 14 (-2) i124_12 (by decide) rfl ?_
      refine wRi i124_14 m124 rfl ?_
      refine ⟨congrArg (fun z => some (Value.int z)) ?_, rfl⟩
      unfold sp_count
      repeat' split
      all_goals first | rfl | (exfalso; simp only [Int32.lt_iff_toInt_lt, Int32.le_iff_toInt_le, ← Int32.toInt_inj] at * <;> (simp at * <;> omega))
    ·
      refine wZF 17 13 i142_10 rfl (decide_eq_false (wl_ngt (l := 6) (by decide) c2)) rfl ?_
      refine wK 14 1 i142_13 (by decide) rfl ?_
      refine wGo 18 i142_14 rfl ?_
      refine jRi i142_18 m142 (by decide) ?_
      refine wZT 15 i124_9 rfl (by decide) ?_
      refine wLin 16 i124_15 rfl rfl ?_
      refine wK 17 2 i124_16 (by decide) rfl ?_
      by_cases c3 : (a1) = 2
      ·
        refine wCT 25 i124_17 rfl (decide_eq_true c3) ?_
        subst c3
        refine wLan 26 i124_25 rfl rfl ?_
        refine wLin 27 i124_26 rfl rfl ?_
        refine wK 28 2 i124_27 (by decide) rfl ?_
        refine wA 29 i124_28 rfl rfl rfl ?_
        refine tTop (v := 0) (by decide) ?_
        refine jCall 32 [.ref 77, .int 0] [] [(0, .ref 77), (1, .int 0)] i124_29 rfl (xlk0 l124_389) (Or.inl rfl) m192 rfl rfl (Nat.le_of_ble_eq_true rfl) (Nat.le_of_ble_eq_true rfl) (Nat.le_of_ble_eq_true rfl) rfl rfl rfl ?_
        refine wK 1 0 i192_0 (by decide) rfl ?_
        refine wSin 2 [(2, .int 0), (0, .ref 77), (1, .int 0)] i192_1 m192 (by decide) rfl rfl ?_
        refine wK 3 0 i192_2 (by decide) rfl ?_
        refine wSin 4 [(3, .int 0), (2, .int 0), (0, .ref 77), (1, .int 0)] i192_3 m192 (by decide) rfl rfl ?_
        refine wLin 5 i192_4 rfl rfl ?_
        refine wKb 7 8 i192_5 (by decide) rfl ?_
        refine wCF 69 10 i192_7 rfl (by decide) rfl ?_
        refine wK 11 0 i192_10 (by decide) rfl ?_
        refine wSi 13 [(4, .int 0), (3, .int 0), (2, .int 0), (0, .ref 77), (1, .int 0)] i192_11 m192 (by decide) rfl rfl ?_
        refine wLi 15 i192_13 rfl rfl ?_
        refine wLan 16 i192_15 rfl rfl ?_
        refine wGet 19 (.ref 78) i192_16 f192_13 rfl rfl rfl ?_
        refine wLin 20 i192_19 rfl rfl ?_
        refine wIal 21 i192_20 rfl (by decide) rfl ?_
        refine tTop (v := 0) rfl ?_
        refine wCT 63 i192_21 rfl (by decide) ?_
        refine wInc 66 [(3, .int 1), (4, .int 0), (2, .int 0), (0, .ref 77), (1, .int 0)] 1 i192_63 m192 (by decide) rfl (by decide) rfl rfl ?_
        refine wGo 4 i192_66 rfl ?_
        refine wLin 5 i192_4 rfl rfl ?_
        refine wKb 7 8 i192_5 (by decide) rfl ?_
        refine wCF 69 10 i192_7 rfl (by decide) rfl ?_
        refine wK 11 0 i192_10 (by decide) rfl ?_
        refine wSi 13 [(4, .int 0), (3, .int 1), (2, .int 0), (0, .ref 77), (1, .int 0)] i192_11 m192 (by decide) rfl rfl ?_
        refine wLi 15 i192_13 rfl rfl ?_
        refine wLan 16 i192_15 rfl rfl ?_
        refine wGet 19 (.ref 78) i192_16 f192_13 rfl rfl rfl ?_
        refine wLin 20 i192_19 rfl rfl ?_
        refine wIal 21 i192_20 rfl (by decide) rfl ?_
        refine tTop (v := 0) rfl ?_
        refine wCT 63 i192_21 rfl (by decide) ?_
        refine wInc 66 [(3, .int 2), (4, .int 0), (2, .int 0), (0, .ref 77), (1, .int 0)] 2 i192_63 m192 (by decide) rfl (by decide) rfl rfl ?_
        refine wGo 4 i192_66 rfl ?_
        refine wLin 5 i192_4 rfl rfl ?_
        refine wKb 7 8 i192_5 (by decide) rfl ?_
        refine wCF 69 10 i192_7 rfl (by decide) rfl ?_
        refine wK 11 0 i192_10 (by decide) rfl ?_
        refine wSi 13 [(4, .int 0), (3, .int 2), (2, .int 0), (0, .ref 77), (1, .int 0)] i192_11 m192 (by decide) rfl rfl ?_
        refine wLi 15 i192_13 rfl rfl ?_
        refine wLan 16 i192_15 rfl rfl ?_
        refine wGet 19 (.ref 78) i192_16 f192_13 rfl rfl rfl ?_
        refine wLin 20 i192_19 rfl rfl ?_
        refine wIal 21 i192_20 rfl (by decide) rfl ?_
        refine tTop (v := 0) rfl ?_
        refine wCT 63 i192_21 rfl (by decide) ?_
        refine wInc 66 [(3, .int 3), (4, .int 0), (2, .int 0), (0, .ref 77), (1, .int 0)] 3 i192_63 m192 (by decide) rfl (by decide) rfl rfl ?_
        refine wGo 4 i192_66 rfl ?_
        refine wLin 5 i192_4 rfl rfl ?_
        refine wKb 7 8 i192_5 (by decide) rfl ?_
        refine wCF 69 10 i192_7 rfl (by decide) rfl ?_
        refine wK 11 0 i192_10 (by decide) rfl ?_
        refine wSi 13 [(4, .int 0), (3, .int 3), (2, .int 0), (0, .ref 77), (1, .int 0)] i192_11 m192 (by decide) rfl rfl ?_
        refine wLi 15 i192_13 rfl rfl ?_
        refine wLan 16 i192_15 rfl rfl ?_
        refine wGet 19 (.ref 78) i192_16 f192_13 rfl rfl rfl ?_
        refine wLin 20 i192_19 rfl rfl ?_
        refine wIal 21 i192_20 rfl (by decide) rfl ?_
        refine tTop (v := 0) rfl ?_
        refine wCT 63 i192_21 rfl (by decide) ?_
        refine wInc 66 [(3, .int 4), (4, .int 0), (2, .int 0), (0, .ref 77), (1, .int 0)] 4 i192_63 m192 (by decide) rfl (by decide) rfl rfl ?_
        refine wGo 4 i192_66 rfl ?_
        refine wLin 5 i192_4 rfl rfl ?_
        refine wKb 7 8 i192_5 (by decide) rfl ?_
        refine wCF 69 10 i192_7 rfl (by decide) rfl ?_
        refine wK 11 0 i192_10 (by decide) rfl ?_
        refine wSi 13 [(4, .int 0), (3, .int 4), (2, .int 0), (0, .ref 77), (1, .int 0)] i192_11 m192 (by decide) rfl rfl ?_
        refine wLi 15 i192_13 rfl rfl ?_
        refine wLan 16 i192_15 rfl rfl ?_
        refine wGet 19 (.ref 78) i192_16 f192_13 rfl rfl rfl ?_
        refine wLin 20 i192_19 rfl rfl ?_
        refine wIal 21 i192_20 rfl (by decide) rfl ?_
        refine tTop (v := 0) rfl ?_
        refine wCT 63 i192_21 rfl (by decide) ?_
        refine wInc 66 [(3, .int 5), (4, .int 0), (2, .int 0), (0, .ref 77), (1, .int 0)] 5 i192_63 m192 (by decide) rfl (by decide) rfl rfl ?_
        refine wGo 4 i192_66 rfl ?_
        refine wLin 5 i192_4 rfl rfl ?_
        refine wKb 7 8 i192_5 (by decide) rfl ?_
        refine wCF 69 10 i192_7 rfl (by decide) rfl ?_
        refine wK 11 0 i192_10 (by decide) rfl ?_
        refine wSi 13 [(4, .int 0), (3, .int 5), (2, .int 0), (0, .ref 77), (1, .int 0)] i192_11 m192 (by decide) rfl rfl ?_
        refine wLi 15 i192_13 rfl rfl ?_
        refine wLan 16 i192_15 rfl rfl ?_
        refine wGet 19 (.ref 78) i192_16 f192_13 rfl rfl rfl ?_
        refine wLin 20 i192_19 rfl rfl ?_
        refine wIal 21 i192_20 rfl (by decide) rfl ?_
        refine tTop (v := 0) rfl ?_
        refine wCT 63 i192_21 rfl (by decide) ?_
        refine wInc 66 [(3, .int 6), (4, .int 0), (2, .int 0), (0, .ref 77), (1, .int 0)] 6 i192_63 m192 (by decide) rfl (by decide) rfl rfl ?_
        refine wGo 4 i192_66 rfl ?_
        refine wLin 5 i192_4 rfl rfl ?_
        refine wKb 7 8 i192_5 (by decide) rfl ?_
        refine wCF 69 10 i192_7 rfl (by decide) rfl ?_
        refine wK 11 0 i192_10 (by decide) rfl ?_
        refine wSi 13 [(4, .int 0), (3, .int 6), (2, .int 0), (0, .ref 77), (1, .int 0)] i192_11 m192 (by decide) rfl rfl ?_
        refine wLi 15 i192_13 rfl rfl ?_
        refine wLan 16 i192_15 rfl rfl ?_
        refine wGet 19 (.ref 78) i192_16 f192_13 rfl rfl rfl ?_
        refine wLin 20 i192_19 rfl rfl ?_
        refine wIal 21 i192_20 rfl (by decide) rfl ?_
        refine tTop (v := 0) rfl ?_
        refine wCT 63 i192_21 rfl (by decide) ?_
        refine wInc 66 [(3, .int 7), (4, .int 0), (2, .int 0), (0, .ref 77), (1, .int 0)] 7 i192_63 m192 (by decide) rfl (by decide) rfl rfl ?_
        refine wGo 4 i192_66 rfl ?_
        refine wLin 5 i192_4 rfl rfl ?_
        refine wKb 7 8 i192_5 (by decide) rfl ?_
        refine wCF 69 10 i192_7 rfl (by decide) rfl ?_
        refine wK 11 0 i192_10 (by decide) rfl ?_
        refine wSi 13 [(4, .int 0), (3, .int 7), (2, .int 0), (0, .ref 77), (1, .int 0)] i192_11 m192 (by decide) rfl rfl ?_
        refine wLi 15 i192_13 rfl rfl ?_
        refine wLan 16 i192_15 rfl rfl ?_
        refine wGet 19 (.ref 78) i192_16 f192_13 rfl rfl rfl ?_
        refine wLin 20 i192_19 rfl rfl ?_
        refine wIal 21 i192_20 rfl (by decide) rfl ?_
        refine tTop (v := 0) rfl ?_
        refine wCT 63 i192_21 rfl (by decide) ?_
        refine wInc 66 [(3, .int 8), (4, .int 0), (2, .int 0), (0, .ref 77), (1, .int 0)] 8 i192_63 m192 (by decide) rfl (by decide) rfl rfl ?_
        refine wGo 4 i192_66 rfl ?_
        refine wLin 5 i192_4 rfl rfl ?_
        refine wKb 7 8 i192_5 (by decide) rfl ?_
        refine wCT 69 i192_7 rfl (by decide) ?_
        refine wLin 70 i192_69 rfl rfl ?_
        refine jRi i192_70 m192 rfl ?_
        refine wRi i124_32 m124 rfl ?_
        refine ⟨congrArg (fun z => some (Value.int z)) ?_, rfl⟩
        unfold sp_count
        repeat' split
        all_goals first | rfl | (exfalso; simp only [Int32.lt_iff_toInt_lt, Int32.le_iff_toInt_le, ← Int32.toInt_inj] at * <;> (simp at * <;> omega))
      ·
        refine wCF 25 20 i124_17 rfl (decide_eq_false c3) rfl ?_
        refine wLin 21 i124_20 rfl rfl ?_
        refine wK 22 3 i124_21 (by decide) rfl ?_
        by_cases c4 : (a1) = 3
        ·
          refine wCF 33 25 i124_22 rfl (decide_eq_false (fun z => z c4)) rfl ?_
          subst c4
          refine wLan 26 i124_25 rfl rfl ?_
          refine wLin 27 i124_26 rfl rfl ?_
          refine wK 28 2 i124_27 (by decide) rfl ?_
          refine wA 29 i124_28 rfl rfl rfl ?_
          refine tTop (v := 1) (by decide) ?_
          refine jCall 32 [.ref 77, .int 1] [] [(0, .ref 77), (1, .int 1)] i124_29 rfl (xlk0 l124_389) (Or.inl rfl) m192 rfl rfl (Nat.le_of_ble_eq_true rfl) (Nat.le_of_ble_eq_true rfl) (Nat.le_of_ble_eq_true rfl) rfl rfl rfl ?_
          refine wK 1 0 i192_0 (by decide) rfl ?_
          refine wSin 2 [(2, .int 0), (0, .ref 77), (1, .int 1)] i192_1 m192 (by decide) rfl rfl ?_
          refine wK 3 0 i192_2 (by decide) rfl ?_
          refine wSin 4 [(3, .int 0), (2, .int 0), (0, .ref 77), (1, .int 1)] i192_3 m192 (by decide) rfl rfl ?_
          refine wLin 5 i192_4 rfl rfl ?_
          refine wKb 7 8 i192_5 (by decide) rfl ?_
          refine wCF 69 10 i192_7 rfl (by decide) rfl ?_
          refine wK 11 0 i192_10 (by decide) rfl ?_
          refine wSi 13 [(4, .int 0), (3, .int 0), (2, .int 0), (0, .ref 77), (1, .int 1)] i192_11 m192 (by decide) rfl rfl ?_
          refine wLi 15 i192_13 rfl rfl ?_
          refine wLan 16 i192_15 rfl rfl ?_
          refine wGet 19 (.ref 78) i192_16 f192_13 rfl rfl rfl ?_
          refine wLin 20 i192_19 rfl rfl ?_
          refine wIal 21 i192_20 rfl (by decide) rfl ?_
          refine tTop (v := 0) rfl ?_
          refine wCT 63 i192_21 rfl (by decide) ?_
          refine wInc 66 [(3, .int 1), (4, .int 0), (2, .int 0), (0, .ref 77), (1, .int 1)] 1 i192_63 m192 (by decide) rfl (by decide) rfl rfl ?_
          refine wGo 4 i192_66 rfl ?_
          refine wLin 5 i192_4 rfl rfl ?_
          refine wKb 7 8 i192_5 (by decide) rfl ?_
          refine wCF 69 10 i192_7 rfl (by decide) rfl ?_
          refine wK 11 0 i192_10 (by decide) rfl ?_
          refine wSi 13 [(4, .int 0), (3, .int 1), (2, .int 0), (0, .ref 77), (1, .int 1)] i192_11 m192 (by decide) rfl rfl ?_
          refine wLi 15 i192_13 rfl rfl ?_
          refine wLan 16 i192_15 rfl rfl ?_
          refine wGet 19 (.ref 78) i192_16 f192_13 rfl rfl rfl ?_
          refine wLin 20 i192_19 rfl rfl ?_
          refine wIal 21 i192_20 rfl (by decide) rfl ?_
          refine tTop (v := 0) rfl ?_
          refine wCT 63 i192_21 rfl (by decide) ?_
          refine wInc 66 [(3, .int 2), (4, .int 0), (2, .int 0), (0, .ref 77), (1, .int 1)] 2 i192_63 m192 (by decide) rfl (by decide) rfl rfl ?_
          refine wGo 4 i192_66 rfl ?_
          refine wLin 5 i192_4 rfl rfl ?_
          refine wKb 7 8 i192_5 (by decide) rfl ?_
          refine wCF 69 10 i192_7 rfl (by decide) rfl ?_
          refine wK 11 0 i192_10 (by decide) rfl ?_
          refine wSi 13 [(4, .int 0), (3, .int 2), (2, .int 0), (0, .ref 77), (1, .int 1)] i192_11 m192 (by decide) rfl rfl ?_
          refine wLi 15 i192_13 rfl rfl ?_
          refine wLan 16 i192_15 rfl rfl ?_
          refine wGet 19 (.ref 78) i192_16 f192_13 rfl rfl rfl ?_
          refine wLin 20 i192_19 rfl rfl ?_
          refine wIal 21 i192_20 rfl (by decide) rfl ?_
          refine tTop (v := 0) rfl ?_
          refine wCT 63 i192_21 rfl (by decide) ?_
          refine wInc 66 [(3, .int 3), (4, .int 0), (2, .int 0), (0, .ref 77), (1, .int 1)] 3 i192_63 m192 (by decide) rfl (by decide) rfl rfl ?_
          refine wGo 4 i192_66 rfl ?_
          refine wLin 5 i192_4 rfl rfl ?_
          refine wKb 7 8 i192_5 (by decide) rfl ?_
          refine wCF 69 10 i192_7 rfl (by decide) rfl ?_
          refine wK 11 0 i192_10 (by decide) rfl ?_
          refine wSi 13 [(4, .int 0), (3, .int 3), (2, .int 0), (0, .ref 77), (1, .int 1)] i192_11 m192 (by decide) rfl rfl ?_
          refine wLi 15 i192_13 rfl rfl ?_
          refine wLan 16 i192_15 rfl rfl ?_
          refine wGet 19 (.ref 78) i192_16 f192_13 rfl rfl rfl ?_
          refine wLin 20 i192_19 rfl rfl ?_
          refine wIal 21 i192_20 rfl (by decide) rfl ?_
          refine tTop (v := 0) rfl ?_
          refine wCT 63 i192_21 rfl (by decide) ?_
          refine wInc 66 [(3, .int 4), (4, .int 0), (2, .int 0), (0, .ref 77), (1, .int 1)] 4 i192_63 m192 (by decide) rfl (by decide) rfl rfl ?_
          refine wGo 4 i192_66 rfl ?_
          refine wLin 5 i192_4 rfl rfl ?_
          refine wKb 7 8 i192_5 (by decide) rfl ?_
          refine wCF 69 10 i192_7 rfl (by decide) rfl ?_
          refine wK 11 0 i192_10 (by decide) rfl ?_
          refine wSi 13 [(4, .int 0), (3, .int 4), (2, .int 0), (0, .ref 77), (1, .int 1)] i192_11 m192 (by decide) rfl rfl ?_
          refine wLi 15 i192_13 rfl rfl ?_
          refine wLan 16 i192_15 rfl rfl ?_
          refine wGet 19 (.ref 78) i192_16 f192_13 rfl rfl rfl ?_
          refine wLin 20 i192_19 rfl rfl ?_
          refine wIal 21 i192_20 rfl (by decide) rfl ?_
          refine tTop (v := 0) rfl ?_
          refine wCT 63 i192_21 rfl (by decide) ?_
          refine wInc 66 [(3, .int 5), (4, .int 0), (2, .int 0), (0, .ref 77), (1, .int 1)] 5 i192_63 m192 (by decide) rfl (by decide) rfl rfl ?_
          refine wGo 4 i192_66 rfl ?_
          refine wLin 5 i192_4 rfl rfl ?_
          refine wKb 7 8 i192_5 (by decide) rfl ?_
          refine wCF 69 10 i192_7 rfl (by decide) rfl ?_
          refine wK 11 0 i192_10 (by decide) rfl ?_
          refine wSi 13 [(4, .int 0), (3, .int 5), (2, .int 0), (0, .ref 77), (1, .int 1)] i192_11 m192 (by decide) rfl rfl ?_
          refine wLi 15 i192_13 rfl rfl ?_
          refine wLan 16 i192_15 rfl rfl ?_
          refine wGet 19 (.ref 78) i192_16 f192_13 rfl rfl rfl ?_
          refine wLin 20 i192_19 rfl rfl ?_
          refine wIal 21 i192_20 rfl (by decide) rfl ?_
          refine tTop (v := 0) rfl ?_
          refine wCT 63 i192_21 rfl (by decide) ?_
          refine wInc 66 [(3, .int 6), (4, .int 0), (2, .int 0), (0, .ref 77), (1, .int 1)] 6 i192_63 m192 (by decide) rfl (by decide) rfl rfl ?_
          refine wGo 4 i192_66 rfl ?_
          refine wLin 5 i192_4 rfl rfl ?_
          refine wKb 7 8 i192_5 (by decide) rfl ?_
          refine wCF 69 10 i192_7 rfl (by decide) rfl ?_
          refine wK 11 0 i192_10 (by decide) rfl ?_
          refine wSi 13 [(4, .int 0), (3, .int 6), (2, .int 0), (0, .ref 77), (1, .int 1)] i192_11 m192 (by decide) rfl rfl ?_
          refine wLi 15 i192_13 rfl rfl ?_
          refine wLan 16 i192_15 rfl rfl ?_
          refine wGet 19 (.ref 78) i192_16 f192_13 rfl rfl rfl ?_
          refine wLin 20 i192_19 rfl rfl ?_
          refine wIal 21 i192_20 rfl (by decide) rfl ?_
          refine tTop (v := 0) rfl ?_
          refine wCT 63 i192_21 rfl (by decide) ?_
          refine wInc 66 [(3, .int 7), (4, .int 0), (2, .int 0), (0, .ref 77), (1, .int 1)] 7 i192_63 m192 (by decide) rfl (by decide) rfl rfl ?_
          refine wGo 4 i192_66 rfl ?_
          refine wLin 5 i192_4 rfl rfl ?_
          refine wKb 7 8 i192_5 (by decide) rfl ?_
          refine wCF 69 10 i192_7 rfl (by decide) rfl ?_
          refine wK 11 0 i192_10 (by decide) rfl ?_
          refine wSi 13 [(4, .int 0), (3, .int 7), (2, .int 0), (0, .ref 77), (1, .int 1)] i192_11 m192 (by decide) rfl rfl ?_
          refine wLi 15 i192_13 rfl rfl ?_
          refine wLan 16 i192_15 rfl rfl ?_
          refine wGet 19 (.ref 78) i192_16 f192_13 rfl rfl rfl ?_
          refine wLin 20 i192_19 rfl rfl ?_
          refine wIal 21 i192_20 rfl (by decide) rfl ?_
          refine tTop (v := 0) rfl ?_
          refine wCT 63 i192_21 rfl (by decide) ?_
          refine wInc 66 [(3, .int 8), (4, .int 0), (2, .int 0), (0, .ref 77), (1, .int 1)] 8 i192_63 m192 (by decide) rfl (by decide) rfl rfl ?_
          refine wGo 4 i192_66 rfl ?_
          refine wLin 5 i192_4 rfl rfl ?_
          refine wKb 7 8 i192_5 (by decide) rfl ?_
          refine wCT 69 i192_7 rfl (by decide) ?_
          refine wLin 70 i192_69 rfl rfl ?_
          refine jRi i192_70 m192 rfl ?_
          refine wRi i124_32 m124 rfl ?_
          refine ⟨congrArg (fun z => some (Value.int z)) ?_, rfl⟩
          unfold sp_count
          repeat' split
          all_goals first | rfl | (exfalso; simp only [Int32.lt_iff_toInt_lt, Int32.le_iff_toInt_le, ← Int32.toInt_inj] at * <;> (simp at * <;> omega))
        ·
          refine wCT 33 i124_22 rfl (decide_eq_true c4) ?_
          refine wK 34 0 i124_33 (by decide) rfl ?_
          refine wSin 35 [(2, .int 0), (0, .ref 77), (1, .int (a1))] i124_34 m124 (by decide) rfl rfl ?_
          refine wK 36 0 i124_35 (by decide) rfl ?_
          refine wSin 37 [(3, .int 0), (2, .int 0), (0, .ref 77), (1, .int (a1))] i124_36 m124 (by decide) rfl rfl ?_
          refine wLin 38 i124_37 rfl rfl ?_
          refine wKb 40 8 i124_38 (by decide) rfl ?_
          refine wCF 58 43 i124_40 rfl (by decide) rfl ?_
          refine wLin 44 i124_43 rfl rfl ?_
          refine wLan 45 i124_44 rfl rfl ?_
          refine wGet 48 (.ref 78) i124_45 f124_13 rfl rfl rfl ?_
          refine wLin 49 i124_48 rfl rfl ?_
          refine wIal 50 i124_49 rfl (by decide) rfl ?_
          refine tTop (v := 0) rfl ?_
          refine wA 51 i124_50 rfl rfl rfl ?_
          refine tTop (v := 0) (by decide) ?_
          refine wSin 52 [(2, .int 0), (3, .int 0), (0, .ref 77), (1, .int (a1))] i124_51 m124 (by decide) rfl rfl ?_
          refine wInc 55 [(3, .int 1), (2, .int 0), (0, .ref 77), (1, .int (a1))] 1 i124_52 m124 (by decide) rfl (by decide) rfl rfl ?_
          refine wGo 37 i124_55 rfl ?_
          refine wLin 38 i124_37 rfl rfl ?_
          refine wKb 40 8 i124_38 (by decide) rfl ?_
          refine wCF 58 43 i124_40 rfl (by decide) rfl ?_
          refine wLin 44 i124_43 rfl rfl ?_
          refine wLan 45 i124_44 rfl rfl ?_
          refine wGet 48 (.ref 78) i124_45 f124_13 rfl rfl rfl ?_
          refine wLin 49 i124_48 rfl rfl ?_
          refine wIal 50 i124_49 rfl (by decide) rfl ?_
          refine tTop (v := 0) rfl ?_
          refine wA 51 i124_50 rfl rfl rfl ?_
          refine tTop (v := 0) (by decide) ?_
          refine wSin 52 [(2, .int 0), (3, .int 1), (0, .ref 77), (1, .int (a1))] i124_51 m124 (by decide) rfl rfl ?_
          refine wInc 55 [(3, .int 2), (2, .int 0), (0, .ref 77), (1, .int (a1))] 2 i124_52 m124 (by decide) rfl (by decide) rfl rfl ?_
          refine wGo 37 i124_55 rfl ?_
          refine wLin 38 i124_37 rfl rfl ?_
          refine wKb 40 8 i124_38 (by decide) rfl ?_
          refine wCF 58 43 i124_40 rfl (by decide) rfl ?_
          refine wLin 44 i124_43 rfl rfl ?_
          refine wLan 45 i124_44 rfl rfl ?_
          refine wGet 48 (.ref 78) i124_45 f124_13 rfl rfl rfl ?_
          refine wLin 49 i124_48 rfl rfl ?_
          refine wIal 50 i124_49 rfl (by decide) rfl ?_
          refine tTop (v := 0) rfl ?_
          refine wA 51 i124_50 rfl rfl rfl ?_
          refine tTop (v := 0) (by decide) ?_
          refine wSin 52 [(2, .int 0), (3, .int 2), (0, .ref 77), (1, .int (a1))] i124_51 m124 (by decide) rfl rfl ?_
          refine wInc 55 [(3, .int 3), (2, .int 0), (0, .ref 77), (1, .int (a1))] 3 i124_52 m124 (by decide) rfl (by decide) rfl rfl ?_
          refine wGo 37 i124_55 rfl ?_
          refine wLin 38 i124_37 rfl rfl ?_
          refine wKb 40 8 i124_38 (by decide) rfl ?_
          refine wCF 58 43 i124_40 rfl (by decide) rfl ?_
          refine wLin 44 i124_43 rfl rfl ?_
          refine wLan 45 i124_44 rfl rfl ?_
          refine wGet 48 (.ref 78) i124_45 f124_13 rfl rfl rfl ?_
          refine wLin 49 i124_48 rfl rfl ?_
          refine wIal 50 i124_49 rfl (by decide) rfl ?_
          refine tTop (v := 0) rfl ?_
          refine wA 51 i124_50 rfl rfl rfl ?_
          refine tTop (v := 0) (by decide) ?_
          refine wSin 52 [(2, .int 0), (3, .int 3), (0, .ref 77), (1, .int (a1))] i124_51 m124 (by decide) rfl rfl ?_
          refine wInc 55 [(3, .int 4), (2, .int 0), (0, .ref 77), (1, .int (a1))] 4 i124_52 m124 (by decide) rfl (by decide) rfl rfl ?_
          refine wGo 37 i124_55 rfl ?_
          refine wLin 38 i124_37 rfl rfl ?_
          refine wKb 40 8 i124_38 (by decide) rfl ?_
          refine wCF 58 43 i124_40 rfl (by decide) rfl ?_
          refine wLin 44 i124_43 rfl rfl ?_
          refine wLan 45 i124_44 rfl rfl ?_
          refine wGet 48 (.ref 78) i124_45 f124_13 rfl rfl rfl ?_
          refine wLin 49 i124_48 rfl rfl ?_
          refine wIal 50 i124_49 rfl (by decide) rfl ?_
          refine tTop (v := 0) rfl ?_
          refine wA 51 i124_50 rfl rfl rfl ?_
          refine tTop (v := 0) (by decide) ?_
          refine wSin 52 [(2, .int 0), (3, .int 4), (0, .ref 77), (1, .int (a1))] i124_51 m124 (by decide) rfl rfl ?_
          refine wInc 55 [(3, .int 5), (2, .int 0), (0, .ref 77), (1, .int (a1))] 5 i124_52 m124 (by decide) rfl (by decide) rfl rfl ?_
          refine wGo 37 i124_55 rfl ?_
          refine wLin 38 i124_37 rfl rfl ?_
          refine wKb 40 8 i124_38 (by decide) rfl ?_
          refine wCF 58 43 i124_40 rfl (by decide) rfl ?_
          refine wLin 44 i124_43 rfl rfl ?_
          refine wLan 45 i124_44 rfl rfl ?_
          refine wGet 48 (.ref 78) i124_45 f124_13 rfl rfl rfl ?_
          refine wLin 49 i124_48 rfl rfl ?_
          refine wIal 50 i124_49 rfl (by decide) rfl ?_
          refine tTop (v := 0) rfl ?_
          refine wA 51 i124_50 rfl rfl rfl ?_
          refine tTop (v := 0) (by decide) ?_
          refine wSin 52 [(2, .int 0), (3, .int 5), (0, .ref 77), (1, .int (a1))] i124_51 m124 (by decide) rfl rfl ?_
          refine wInc 55 [(3, .int 6), (2, .int 0), (0, .ref 77), (1, .int (a1))] 6 i124_52 m124 (by decide) rfl (by decide) rfl rfl ?_
          refine wGo 37 i124_55 rfl ?_
          refine wLin 38 i124_37 rfl rfl ?_
          refine wKb 40 8 i124_38 (by decide) rfl ?_
          refine wCF 58 43 i124_40 rfl (by decide) rfl ?_
          refine wLin 44 i124_43 rfl rfl ?_
          refine wLan 45 i124_44 rfl rfl ?_
          refine wGet 48 (.ref 78) i124_45 f124_13 rfl rfl rfl ?_
          refine wLin 49 i124_48 rfl rfl ?_
          refine wIal 50 i124_49 rfl (by decide) rfl ?_
          refine tTop (v := 0) rfl ?_
          refine wA 51 i124_50 rfl rfl rfl ?_
          refine tTop (v := 0) (by decide) ?_
          refine wSin 52 [(2, .int 0), (3, .int 6), (0, .ref 77), (1, .int (a1))] i124_51 m124 (by decide) rfl rfl ?_
          refine wInc 55 [(3, .int 7), (2, .int 0), (0, .ref 77), (1, .int (a1))] 7 i124_52 m124 (by decide) rfl (by decide) rfl rfl ?_
          refine wGo 37 i124_55 rfl ?_
          refine wLin 38 i124_37 rfl rfl ?_
          refine wKb 40 8 i124_38 (by decide) rfl ?_
          refine wCF 58 43 i124_40 rfl (by decide) rfl ?_
          refine wLin 44 i124_43 rfl rfl ?_
          refine wLan 45 i124_44 rfl rfl ?_
          refine wGet 48 (.ref 78) i124_45 f124_13 rfl rfl rfl ?_
          refine wLin 49 i124_48 rfl rfl ?_
          refine wIal 50 i124_49 rfl (by decide) rfl ?_
          refine tTop (v := 0) rfl ?_
          refine wA 51 i124_50 rfl rfl rfl ?_
          refine tTop (v := 0) (by decide) ?_
          refine wSin 52 [(2, .int 0), (3, .int 7), (0, .ref 77), (1, .int (a1))] i124_51 m124 (by decide) rfl rfl ?_
          refine wInc 55 [(3, .int 8), (2, .int 0), (0, .ref 77), (1, .int (a1))] 8 i124_52 m124 (by decide) rfl (by decide) rfl rfl ?_
          refine wGo 37 i124_55 rfl ?_
          refine wLin 38 i124_37 rfl rfl ?_
          refine wKb 40 8 i124_38 (by decide) rfl ?_
          refine wCT 58 i124_40 rfl (by decide) ?_
          refine wLin 59 i124_58 rfl rfl ?_
          by_cases c5 : (a1) = 0
          ·
            refine wZF 69 62 i124_59 rfl (decide_eq_false (fun z => z c5)) rfl ?_
            subst c5
            refine wLan 63 i124_62 rfl rfl ?_
            refine jCall 66 [.ref 77] [] [(0, .ref 77)] i124_63 rfl (xlk0 l124_422) (Or.inl rfl) m136 rfl rfl (Nat.le_of_ble_eq_true rfl) (Nat.le_of_ble_eq_true rfl) (Nat.le_of_ble_eq_true rfl) rfl rfl rfl ?_
            refine wK 1 0 i136_0 (by decide) rfl ?_
            refine wSin 2 [(1, .int 0), (0, .ref 77)] i136_1 m136 (by decide) rfl rfl ?_
            refine wK 3 0 i136_2 (by decide) rfl ?_
            refine wSin 4 [(2, .int 0), (1, .int 0), (0, .ref 77)] i136_3 m136 (by decide) rfl rfl ?_
            refine wLin 5 i136_4 rfl rfl ?_
            refine wKb 7 8 i136_5 (by decide) rfl ?_
            refine wCF 33 10 i136_7 rfl (by decide) rfl ?_
            refine wLin 11 i136_10 rfl rfl ?_
            refine wLan 12 i136_11 rfl rfl ?_
            refine wGet 15 (.ref 78) i136_12 f136_13 rfl rfl rfl ?_
            refine wLin 16 i136_15 rfl rfl ?_
            refine wIal 17 i136_16 rfl (by decide) rfl ?_
            refine tTop (v := 0) rfl ?_
            refine wZT 24 i136_17 rfl (by decide) ?_
            refine wK 25 0 i136_24 (by decide) rfl ?_
            refine wA 26 i136_25 rfl rfl rfl ?_
            refine tTop (v := 0) (by decide) ?_
            refine wSin 27 [(1, .int 0), (2, .int 0), (0, .ref 77)] i136_26 m136 (by decide) rfl rfl ?_
            refine wInc 30 [(2, .int 1), (1, .int 0), (0, .ref 77)] 1 i136_27 m136 (by decide) rfl (by decide) rfl rfl ?_
            refine wGo 4 i136_30 rfl ?_
            refine wLin 5 i136_4 rfl rfl ?_
            refine wKb 7 8 i136_5 (by decide) rfl ?_
            refine wCF 33 10 i136_7 rfl (by decide) rfl ?_
            refine wLin 11 i136_10 rfl rfl ?_
            refine wLan 12 i136_11 rfl rfl ?_
            refine wGet 15 (.ref 78) i136_12 f136_13 rfl rfl rfl ?_
            refine wLin 16 i136_15 rfl rfl ?_
            refine wIal 17 i136_16 rfl (by decide) rfl ?_
            refine tTop (v := 0) rfl ?_
            refine wZT 24 i136_17 rfl (by decide) ?_
            refine wK 25 0 i136_24 (by decide) rfl ?_
            refine wA 26 i136_25 rfl rfl rfl ?_
            refine tTop (v := 0) (by decide) ?_
            refine wSin 27 [(1, .int 0), (2, .int 1), (0, .ref 77)] i136_26 m136 (by decide) rfl rfl ?_
            refine wInc 30 [(2, .int 2), (1, .int 0), (0, .ref 77)] 2 i136_27 m136 (by decide) rfl (by decide) rfl rfl ?_
            refine wGo 4 i136_30 rfl ?_
            refine wLin 5 i136_4 rfl rfl ?_
            refine wKb 7 8 i136_5 (by decide) rfl ?_
            refine wCF 33 10 i136_7 rfl (by decide) rfl ?_
            refine wLin 11 i136_10 rfl rfl ?_
            refine wLan 12 i136_11 rfl rfl ?_
            refine wGet 15 (.ref 78) i136_12 f136_13 rfl rfl rfl ?_
            refine wLin 16 i136_15 rfl rfl ?_
            refine wIal 17 i136_16 rfl (by decide) rfl ?_
            refine tTop (v := 0) rfl ?_
            refine wZT 24 i136_17 rfl (by decide) ?_
            refine wK 25 0 i136_24 (by decide) rfl ?_
            refine wA 26 i136_25 rfl rfl rfl ?_
            refine tTop (v := 0) (by decide) ?_
            refine wSin 27 [(1, .int 0), (2, .int 2), (0, .ref 77)] i136_26 m136 (by decide) rfl rfl ?_
            refine wInc 30 [(2, .int 3), (1, .int 0), (0, .ref 77)] 3 i136_27 m136 (by decide) rfl (by decide) rfl rfl ?_
            refine wGo 4 i136_30 rfl ?_
            refine wLin 5 i136_4 rfl rfl ?_
            refine wKb 7 8 i136_5 (by decide) rfl ?_
            refine wCF 33 10 i136_7 rfl (by decide) rfl ?_
            refine wLin 11 i136_10 rfl rfl ?_
            refine wLan 12 i136_11 rfl rfl ?_
            refine wGet 15 (.ref 78) i136_12 f136_13 rfl rfl rfl ?_
            refine wLin 16 i136_15 rfl rfl ?_
            refine wIal 17 i136_16 rfl (by decide) rfl ?_
            refine tTop (v := 0) rfl ?_
            refine wZT 24 i136_17 rfl (by decide) ?_
            refine wK 25 0 i136_24 (by decide) rfl ?_
            refine wA 26 i136_25 rfl rfl rfl ?_
            refine tTop (v := 0) (by decide) ?_
            refine wSin 27 [(1, .int 0), (2, .int 3), (0, .ref 77)] i136_26 m136 (by decide) rfl rfl ?_
            refine wInc 30 [(2, .int 4), (1, .int 0), (0, .ref 77)] 4 i136_27 m136 (by decide) rfl (by decide) rfl rfl ?_
            refine wGo 4 i136_30 rfl ?_
            refine wLin 5 i136_4 rfl rfl ?_
            refine wKb 7 8 i136_5 (by decide) rfl ?_
            refine wCF 33 10 i136_7 rfl (by decide) rfl ?_
            refine wLin 11 i136_10 rfl rfl ?_
            refine wLan 12 i136_11 rfl rfl ?_
            refine wGet 15 (.ref 78) i136_12 f136_13 rfl rfl rfl ?_
            refine wLin 16 i136_15 rfl rfl ?_
            refine wIal 17 i136_16 rfl (by decide) rfl ?_
            refine tTop (v := 0) rfl ?_
            refine wZT 24 i136_17 rfl (by decide) ?_
            refine wK 25 0 i136_24 (by decide) rfl ?_
            refine wA 26 i136_25 rfl rfl rfl ?_
            refine tTop (v := 0) (by decide) ?_
            refine wSin 27 [(1, .int 0), (2, .int 4), (0, .ref 77)] i136_26 m136 (by decide) rfl rfl ?_
            refine wInc 30 [(2, .int 5), (1, .int 0), (0, .ref 77)] 5 i136_27 m136 (by decide) rfl (by decide) rfl rfl ?_
            refine wGo 4 i136_30 rfl ?_
            refine wLin 5 i136_4 rfl rfl ?_
            refine wKb 7 8 i136_5 (by decide) rfl ?_
            refine wCF 33 10 i136_7 rfl (by decide) rfl ?_
            refine wLin 11 i136_10 rfl rfl ?_
            refine wLan 12 i136_11 rfl rfl ?_
            refine wGet 15 (.ref 78) i136_12 f136_13 rfl rfl rfl ?_
            refine wLin 16 i136_15 rfl rfl ?_
            refine wIal 17 i136_16 rfl (by decide) rfl ?_
            refine tTop (v := 0) rfl ?_
            refine wZT 24 i136_17 rfl (by decide) ?_
            refine wK 25 0 i136_24 (by decide) rfl ?_
            refine wA 26 i136_25 rfl rfl rfl ?_
            refine tTop (v := 0) (by decide) ?_
            refine wSin 27 [(1, .int 0), (2, .int 5), (0, .ref 77)] i136_26 m136 (by decide) rfl rfl ?_
            refine wInc 30 [(2, .int 6), (1, .int 0), (0, .ref 77)] 6 i136_27 m136 (by decide) rfl (by decide) rfl rfl ?_
            refine wGo 4 i136_30 rfl ?_
            refine wLin 5 i136_4 rfl rfl ?_
            refine wKb 7 8 i136_5 (by decide) rfl ?_
            refine wCF 33 10 i136_7 rfl (by decide) rfl ?_
            refine wLin 11 i136_10 rfl rfl ?_
            refine wLan 12 i136_11 rfl rfl ?_
            refine wGet 15 (.ref 78) i136_12 f136_13 rfl rfl rfl ?_
            refine wLin 16 i136_15 rfl rfl ?_
            refine wIal 17 i136_16 rfl (by decide) rfl ?_
            refine tTop (v := 0) rfl ?_
            refine wZT 24 i136_17 rfl (by decide) ?_
            refine wK 25 0 i136_24 (by decide) rfl ?_
            refine wA 26 i136_25 rfl rfl rfl ?_
            refine tTop (v := 0) (by decide) ?_
            refine wSin 27 [(1, .int 0), (2, .int 6), (0, .ref 77)] i136_26 m136 (by decide) rfl rfl ?_
            refine wInc 30 [(2, .int 7), (1, .int 0), (0, .ref 77)] 7 i136_27 m136 (by decide) rfl (by decide) rfl rfl ?_
            refine wGo 4 i136_30 rfl ?_
            refine wLin 5 i136_4 rfl rfl ?_
            refine wKb 7 8 i136_5 (by decide) rfl ?_
            refine wCF 33 10 i136_7 rfl (by decide) rfl ?_
            refine wLin 11 i136_10 rfl rfl ?_
            refine wLan 12 i136_11 rfl rfl ?_
            refine wGet 15 (.ref 78) i136_12 f136_13 rfl rfl rfl ?_
            refine wLin 16 i136_15 rfl rfl ?_
            refine wIal 17 i136_16 rfl (by decide) rfl ?_
            refine tTop (v := 0) rfl ?_
            refine wZT 24 i136_17 rfl (by decide) ?_
            refine wK 25 0 i136_24 (by decide) rfl ?_
            refine wA 26 i136_25 rfl rfl rfl ?_
            refine tTop (v := 0) (by decide) ?_
            refine wSin 27 [(1, .int 0), (2, .int 7), (0, .ref 77)] i136_26 m136 (by decide) rfl rfl ?_
            refine wInc 30 [(2, .int 8), (1, .int 0), (0, .ref 77)] 8 i136_27 m136 (by decide) rfl (by decide) rfl rfl ?_
            refine wGo 4 i136_30 rfl ?_
            refine wLin 5 i136_4 rfl rfl ?_
            refine wKb 7 8 i136_5 (by decide) rfl ?_
            refine wCT 33 i136_7 rfl (by decide) ?_
            refine wLin 34 i136_33 rfl rfl ?_
            refine jRi i136_34 m136 rfl ?_
            refine wGo 106 i124_66 rfl ?_
            refine wRi i124_106 m124 rfl ?_
            refine ⟨congrArg (fun z => some (Value.int z)) ?_, rfl⟩
            unfold sp_count
            repeat' split
            all_goals first | rfl | (exfalso; simp only [Int32.lt_iff_toInt_lt, Int32.le_iff_toInt_le, ← Int32.toInt_inj] at * <;> (simp at * <;> omega))
          ·
            refine wZT 69 i124_59 rfl (decide_eq_true c5) ?_
            refine wLin 70 i124_69 rfl rfl ?_
            refine wK 71 1 i124_70 (by decide) rfl ?_
            by_cases c6 : (a1) = 1
            ·
              refine wCF 78 74 i124_71 rfl (decide_eq_false (fun z => z c6)) rfl ?_
              subst c6
              refine wLin 75 i124_74 rfl rfl ?_
              refine wGo 106 i124_75 rfl ?_
              refine wRi i124_106 m124 rfl ?_
              refine ⟨congrArg (fun z => some (Value.int z)) ?_, rfl⟩
              unfold sp_count
              repeat' split
              all_goals first | rfl | (exfalso; simp only [Int32.lt_iff_toInt_lt, Int32.le_iff_toInt_le, ← Int32.toInt_inj] at * <;> (simp at * <;> omega))
            ·
              refine wCT 78 i124_71 rfl (decide_eq_true c6) ?_
              refine wLin 79 i124_78 rfl rfl ?_
              refine wK 80 4 i124_79 (by decide) rfl ?_
              by_cases c7 : (a1) = 4
              ·
                refine wCF 90 83 i124_80 rfl (decide_eq_false (fun z => z c7)) rfl ?_
                subst c7
                refine wLan 84 i124_83 rfl rfl ?_
                refine wGet 87 (.int 0) i124_84 f124_378 rfl rfl rfl ?_
                refine wGo 106 i124_87 rfl ?_
                refine wRi i124_106 m124 rfl ?_
                refine ⟨congrArg (fun z => some (Value.int z)) ?_, rfl⟩
                unfold sp_count
                repeat' split
                all_goals first | rfl | (exfalso; simp only [Int32.lt_iff_toInt_lt, Int32.le_iff_toInt_le, ← Int32.toInt_inj] at * <;> (simp at * <;> omega))
              ·
                refine wCT 90 i124_80 rfl (decide_eq_true c7) ?_
                refine wLin 91 i124_90 rfl rfl ?_
                refine wK 92 5 i124_91 (by decide) rfl ?_
                by_cases c8 : (a1) = 5
                ·
                  refine wCF 102 95 i124_92 rfl (decide_eq_false (fun z => z c8)) rfl ?_
                  subst c8
                  refine wLan 96 i124_95 rfl rfl ?_
                  refine wGet 99 (.int 0) i124_96 f124_183 rfl rfl rfl ?_
                  refine wGo 106 i124_99 rfl ?_
                  refine wRi i124_106 m124 rfl ?_
                  refine ⟨congrArg (fun z => some (Value.int z)) ?_, rfl⟩
                  unfold sp_count
                  repeat' split
                  all_goals first | rfl | (exfalso; simp only [Int32.lt_iff_toInt_lt, Int32.le_iff_toInt_le, ← Int32.toInt_inj] at * <;> (simp at * <;> omega))
                ·
                  refine wCT 102 i124_92 rfl (decide_eq_true c8) ?_
                  refine wLan 103 i124_102 rfl rfl ?_
                  refine wGet 106 (.int 99) i124_103 f124_39 rfl rfl rfl ?_
                  refine wRi i124_106 m124 rfl ?_
                  refine ⟨congrArg (fun z => some (Value.int z)) ?_, rfl⟩
                  unfold sp_count
                  repeat' split
                  all_goals first | rfl | (exfalso; simp only [Int32.lt_iff_toInt_lt, Int32.le_iff_toInt_le, ← Int32.toInt_inj] at * <;> (simp at * <;> omega))
set_option maxHeartbeats 4000000 in
set_option maxRecDepth 100000 in
theorem r_put {sc : xS} {d : Nat} (f : Nat → xE) (a1 : Int32) (a2 : Int32) (a3 : Int64) : xT xg sc (d + 12) 179 0 [(0, .ref 77), (1, .int (a1)), (2, .int (a2)), (3, .long (a3))] [] (hM f) (fun r => r.1 = some (.int (sp_put a1 a2 a3)) ∧ r.2.2 = (0, 0)) := by
  refine wLin 1 i179_0 rfl rfl ?_
  refine jCall 4 [.int (a1)] [] [(0, .int (a1))] i179_1 rfl (xlk1 l179_403) (Or.inr (Or.inl rfl)) m149 rfl rfl (Nat.le_of_ble_eq_true rfl) (Nat.le_of_ble_eq_true rfl) (Nat.le_of_ble_eq_true rfl) rfl rfl rfl ?_
  refine wLin 1 i149_0 rfl rfl ?_
  refine wA 2 i149_1 rfl rfl rfl ?_
  refine wKl 3 0 i149_2 (by decide) rfl ?_
  refine wKd 6 3 i149_3 c149_272 rfl ?_
  refine jCall 9 [.long ((a1).toInt64), .long 0, .long 3] [] [(0, .long ((a1).toInt64)), (2, .long 0), (4, .long 3)] i149_6 rfl (xlk1 l149_177) (Or.inr (Or.inl rfl)) m142 rfl rfl (Nat.le_of_ble_eq_true rfl) (Nat.le_of_ble_eq_true rfl) (Nat.le_of_ble_eq_true rfl) rfl rfl rfl ?_
  refine wLln 1 i142_0 rfl rfl ?_
  refine wLln 2 i142_1 rfl rfl ?_
  refine wA 3 i142_2 rfl rfl rfl ?_
  by_cases c1 : (a1) < 0
  ·
    refine wZT 17 i142_3 rfl (decide_eq_true (wl_lt (l := 0) (by decide) c1)) ?_
    refine wK 18 0 i142_17 (by decide) rfl ?_
    refine jRi i142_18 m142 (by decide) ?_
    refine jRi i149_9 m149 (by decide) ?_
    refine wZF 10 7 i179_4 rfl (by decide) rfl ?_
    refine wKb 9 (-2) i179_7 (by decide) rfl ?_
    refine wRi i179_9 m179 rfl ?_
    refine ⟨congrArg (fun z => some (Value.int z)) ?_, rfl⟩
    unfold sp_put
    repeat' split
    all_goals first | rfl | (exfalso; simp only [Int32.lt_iff_toInt_lt, Int32.le_iff_toInt_le, ← Int32.toInt_inj] at * <;> (simp at * <;> omega))
  ·
    refine wZF 17 6 i142_3 rfl (decide_eq_false (wl_nlt (l := 0) (by decide) c1)) rfl ?_
    refine wLln 7 i142_6 rfl rfl ?_
    refine wLl 9 i142_7 rfl rfl ?_
    refine wA 10 i142_9 rfl rfl rfl ?_
    by_cases c2 : 3 < (a1)
    ·
      refine wZT 17 i142_10 rfl (decide_eq_true (wl_gt (l := 3) (by decide) c2)) ?_
      refine wK 18 0 i142_17 (by decide) rfl ?_
      refine jRi i142_18 m142 (by decide) ?_
      refine jRi i149_9 m149 (by decide) ?_
      refine wZF 10 7 i179_4 rfl (by decide) rfl ?_
      refine wKb 9 (-2) i179_7 (by decide) rfl ?_
      refine wRi i179_9 m179 rfl ?_
      refine ⟨congrArg (fun z => some (Value.int z)) ?_, rfl⟩
      unfold sp_put
      repeat' split
      all_goals first | rfl | (exfalso; simp only [Int32.lt_iff_toInt_lt, Int32.le_iff_toInt_le, ← Int32.toInt_inj] at * <;> (simp at * <;> omega))
    ·
      refine wZF 17 13 i142_10 rfl (decide_eq_false (wl_ngt (l := 3) (by decide) c2)) rfl ?_
      refine wK 14 1 i142_13 (by decide) rfl ?_
      refine wGo 18 i142_14 rfl ?_
      refine jRi i142_18 m142 (by decide) ?_
      refine jRi i149_9 m149 (by decide) ?_
      refine wZT 10 i179_4 rfl (by decide) ?_
      refine wLan 11 i179_10 rfl rfl ?_
      refine wGet 14 (.ref 126) i179_11 f179_163 rfl rfl rfl ?_
      refine wLin 15 i179_14 rfl rfl ?_
      refine wZal 16 i179_15 rfl (x_ib (Int32.not_lt.mp c1) (Int32.not_lt.mp c2) (by decide) (by decide)) rfl ?_
      refine tTop (v := 0) rfl ?_
      refine wZF 22 19 i179_16 rfl (by decide) rfl ?_
      refine wKb 21 (-11) i179_19 (by decide) rfl ?_
      refine wRi i179_21 m179 rfl ?_
      refine ⟨congrArg (fun z => some (Value.int z)) ?_, rfl⟩
      unfold sp_put
      repeat' split
      all_goals first | rfl | (exfalso; simp only [Int32.lt_iff_toInt_lt, Int32.le_iff_toInt_le, ← Int32.toInt_inj] at * <;> (simp at * <;> omega))
set_option maxHeartbeats 4000000 in
set_option maxRecDepth 100000 in
theorem r_item {sc : xS} {d : Nat} (f : Nat → xE) (a1 : Int32) (a2 : Int32) : xT xg sc (d + 12) 155 0 [(0, .ref 77), (1, .int (a1)), (2, .int (a2))] [] (hM f) (fun r => r.1 = some (.long (sp_item a1 a2)) ∧ r.2.2 = (0, 0)) := by
  refine wLin 1 i155_0 rfl rfl ?_
  refine jCall 4 [.int (a1)] [] [(0, .int (a1))] i155_1 rfl (xlk1 l155_403) (Or.inr (Or.inl rfl)) m149 rfl rfl (Nat.le_of_ble_eq_true rfl) (Nat.le_of_ble_eq_true rfl) (Nat.le_of_ble_eq_true rfl) rfl rfl rfl ?_
  refine wLin 1 i149_0 rfl rfl ?_
  refine wA 2 i149_1 rfl rfl rfl ?_
  refine wKl 3 0 i149_2 (by decide) rfl ?_
  refine wKd 6 3 i149_3 c149_272 rfl ?_
  refine jCall 9 [.long ((a1).toInt64), .long 0, .long 3] [] [(0, .long ((a1).toInt64)), (2, .long 0), (4, .long 3)] i149_6 rfl (xlk1 l149_177) (Or.inr (Or.inl rfl)) m142 rfl rfl (Nat.le_of_ble_eq_true rfl) (Nat.le_of_ble_eq_true rfl) (Nat.le_of_ble_eq_true rfl) rfl rfl rfl ?_
  refine wLln 1 i142_0 rfl rfl ?_
  refine wLln 2 i142_1 rfl rfl ?_
  refine wA 3 i142_2 rfl rfl rfl ?_
  by_cases c1 : (a1) < 0
  ·
    refine wZT 17 i142_3 rfl (decide_eq_true (wl_lt (l := 0) (by decide) c1)) ?_
    refine wK 18 0 i142_17 (by decide) rfl ?_
    refine jRi i142_18 m142 (by decide) ?_
    refine jRi i149_9 m149 (by decide) ?_
    refine wZT 48 i155_4 rfl (by decide) ?_
    refine wKd 51 (-4611686018427387904) i155_48 c155_285 rfl ?_
    refine wRl i155_51 m155 ?_
    refine ⟨congrArg (fun z => some (Value.long z)) ?_, rfl⟩
    unfold sp_item
    repeat' split
    all_goals first | rfl | (exfalso; simp only [Int32.lt_iff_toInt_lt, Int32.le_iff_toInt_le, ← Int32.toInt_inj] at * <;> (simp at * <;> omega))
  ·
    refine wZF 17 6 i142_3 rfl (decide_eq_false (wl_nlt (l := 0) (by decide) c1)) rfl ?_
    refine wLln 7 i142_6 rfl rfl ?_
    refine wLl 9 i142_7 rfl rfl ?_
    refine wA 10 i142_9 rfl rfl rfl ?_
    by_cases c2 : 3 < (a1)
    ·
      refine wZT 17 i142_10 rfl (decide_eq_true (wl_gt (l := 3) (by decide) c2)) ?_
      refine wK 18 0 i142_17 (by decide) rfl ?_
      refine jRi i142_18 m142 (by decide) ?_
      refine jRi i149_9 m149 (by decide) ?_
      refine wZT 48 i155_4 rfl (by decide) ?_
      refine wKd 51 (-4611686018427387904) i155_48 c155_285 rfl ?_
      refine wRl i155_51 m155 ?_
      refine ⟨congrArg (fun z => some (Value.long z)) ?_, rfl⟩
      unfold sp_item
      repeat' split
      all_goals first | rfl | (exfalso; simp only [Int32.lt_iff_toInt_lt, Int32.le_iff_toInt_le, ← Int32.toInt_inj] at * <;> (simp at * <;> omega))
    ·
      refine wZF 17 13 i142_10 rfl (decide_eq_false (wl_ngt (l := 3) (by decide) c2)) rfl ?_
      refine wK 14 1 i142_13 (by decide) rfl ?_
      refine wGo 18 i142_14 rfl ?_
      refine jRi i142_18 m142 (by decide) ?_
      refine jRi i149_9 m149 (by decide) ?_
      refine wZF 48 7 i155_4 rfl (by decide) rfl ?_
      refine wLan 8 i155_7 rfl rfl ?_
      refine wGet 11 (.ref 126) i155_8 f155_163 rfl rfl rfl ?_
      refine wLin 12 i155_11 rfl rfl ?_
      refine wZal 13 i155_12 rfl (x_ib (Int32.not_lt.mp c1) (Int32.not_lt.mp c2) (by decide) (by decide)) rfl ?_
      refine tTop (v := 0) rfl ?_
      refine wZT 48 i155_13 rfl (by decide) ?_
      refine wKd 51 (-4611686018427387904) i155_48 c155_285 rfl ?_
      refine wRl i155_51 m155 ?_
      refine ⟨congrArg (fun z => some (Value.long z)) ?_, rfl⟩
      unfold sp_item
      repeat' split
      all_goals first | rfl | (exfalso; simp only [Int32.lt_iff_toInt_lt, Int32.le_iff_toInt_le, ← Int32.toInt_inj] at * <;> (simp at * <;> omega))
set_option maxHeartbeats 4000000 in
set_option maxRecDepth 100000 in
theorem r_copy {sc : xS} {d : Nat} (f : Nat → xE) (a1 : Int32) (a2 : Int32) (a3 : Int32) (a4 : Int32) (a5 : Int32) : xT xg sc (d + 12) 123 0 [(0, .ref 77), (1, .int (a1)), (2, .int (a2)), (3, .int (a3)), (4, .int (a4)), (5, .int (a5))] [] (hM f) (fun r => r.1 = some (.int (sp_copy a1 a2 a3 a4 a5)) ∧ r.2.2 = (0, 0)) := by
  refine wLin 1 i123_0 rfl rfl ?_
  refine jCall 4 [.int (a1)] [] [(0, .int (a1))] i123_1 rfl (xlk1 l123_403) (Or.inr (Or.inl rfl)) m149 rfl rfl (Nat.le_of_ble_eq_true rfl) (Nat.le_of_ble_eq_true rfl) (Nat.le_of_ble_eq_true rfl) rfl rfl rfl ?_
  refine wLin 1 i149_0 rfl rfl ?_
  refine wA 2 i149_1 rfl rfl rfl ?_
  refine wKl 3 0 i149_2 (by decide) rfl ?_
  refine wKd 6 3 i149_3 c149_272 rfl ?_
  refine jCall 9 [.long ((a1).toInt64), .long 0, .long 3] [] [(0, .long ((a1).toInt64)), (2, .long 0), (4, .long 3)] i149_6 rfl (xlk1 l149_177) (Or.inr (Or.inl rfl)) m142 rfl rfl (Nat.le_of_ble_eq_true rfl) (Nat.le_of_ble_eq_true rfl) (Nat.le_of_ble_eq_true rfl) rfl rfl rfl ?_
  refine wLln 1 i142_0 rfl rfl ?_
  refine wLln 2 i142_1 rfl rfl ?_
  refine wA 3 i142_2 rfl rfl rfl ?_
  by_cases c1 : (a1) < 0
  ·
    refine wZT 17 i142_3 rfl (decide_eq_true (wl_lt (l := 0) (by decide) c1)) ?_
    refine wK 18 0 i142_17 (by decide) rfl ?_
    refine jRi i142_18 m142 (by decide) ?_
    refine jRi i149_9 m149 (by decide) ?_
    refine wZT 14 i123_4 rfl (by decide) ?_
    refine wKb 16 (-2) i123_14 (by decide) rfl ?_
    refine wRi i123_16 m123 rfl ?_
    refine ⟨congrArg (fun z => some (Value.int z)) ?_, rfl⟩
    unfold sp_copy
    repeat' split
    all_goals first | rfl | (exfalso; simp only [Int32.lt_iff_toInt_lt, Int32.le_iff_toInt_le, ← Int32.toInt_inj] at * <;> (simp at * <;> omega))
  ·
    refine wZF 17 6 i142_3 rfl (decide_eq_false (wl_nlt (l := 0) (by decide) c1)) rfl ?_
    refine wLln 7 i142_6 rfl rfl ?_
    refine wLl 9 i142_7 rfl rfl ?_
    refine wA 10 i142_9 rfl rfl rfl ?_
    by_cases c2 : 3 < (a1)
    ·
      refine wZT 17 i142_10 rfl (decide_eq_true (wl_gt (l := 3) (by decide) c2)) ?_
      refine wK 18 0 i142_17 (by decide) rfl ?_
      refine jRi i142_18 m142 (by decide) ?_
      refine jRi i149_9 m149 (by decide) ?_
      refine wZT 14 i123_4 rfl (by decide) ?_
      refine wKb 16 (-2) i123_14 (by decide) rfl ?_
      refine wRi i123_16 m123 rfl ?_
      refine ⟨congrArg (fun z => some (Value.int z)) ?_, rfl⟩
      unfold sp_copy
      repeat' split
      all_goals first | rfl | (exfalso; simp only [Int32.lt_iff_toInt_lt, Int32.le_iff_toInt_le, ← Int32.toInt_inj] at * <;> (simp at * <;> omega))
    ·
      refine wZF 17 13 i142_10 rfl (decide_eq_false (wl_ngt (l := 3) (by decide) c2)) rfl ?_
      refine wK 14 1 i142_13 (by decide) rfl ?_
      refine wGo 18 i142_14 rfl ?_
      refine jRi i142_18 m142 (by decide) ?_
      refine jRi i149_9 m149 (by decide) ?_
      refine wZF 14 7 i123_4 rfl (by decide) rfl ?_
      refine wLin 8 i123_7 rfl rfl ?_
      refine jCall 11 [.int (a3)] [] [(0, .int (a3))] i123_8 rfl (xlk1 l123_403) (Or.inr (Or.inl rfl)) m149 rfl rfl (Nat.le_of_ble_eq_true rfl) (Nat.le_of_ble_eq_true rfl) (Nat.le_of_ble_eq_true rfl) rfl rfl rfl ?_
      refine wLin 1 i149_0 rfl rfl ?_
      refine wA 2 i149_1 rfl rfl rfl ?_
      refine wKl 3 0 i149_2 (by decide) rfl ?_
      refine wKd 6 3 i149_3 c149_272 rfl ?_
      refine jCall 9 [.long ((a3).toInt64), .long 0, .long 3] [] [(0, .long ((a3).toInt64)), (2, .long 0), (4, .long 3)] i149_6 rfl (xlk1 l149_177) (Or.inr (Or.inl rfl)) m142 rfl rfl (Nat.le_of_ble_eq_true rfl) (Nat.le_of_ble_eq_true rfl) (Nat.le_of_ble_eq_true rfl) rfl rfl rfl ?_
      refine wLln 1 i142_0 rfl rfl ?_
      refine wLln 2 i142_1 rfl rfl ?_
      refine wA 3 i142_2 rfl rfl rfl ?_
      by_cases c3 : (a3) < 0
      ·
        refine wZT 17 i142_3 rfl (decide_eq_true (wl_lt (l := 0) (by decide) c3)) ?_
        refine wK 18 0 i142_17 (by decide) rfl ?_
        refine jRi i142_18 m142 (by decide) ?_
        refine jRi i149_9 m149 (by decide) ?_
        refine wZF 17 14 i123_11 rfl (by decide) rfl ?_
        refine wKb 16 (-2) i123_14 (by decide) rfl ?_
        refine wRi i123_16 m123 rfl ?_
        refine ⟨congrArg (fun z => some (Value.int z)) ?_, rfl⟩
        unfold sp_copy
        repeat' split
        all_goals first | rfl | (exfalso; simp only [Int32.lt_iff_toInt_lt, Int32.le_iff_toInt_le, ← Int32.toInt_inj] at * <;> (simp at * <;> omega))
      ·
        refine wZF 17 6 i142_3 rfl (decide_eq_false (wl_nlt (l := 0) (by decide) c3)) rfl ?_
        refine wLln 7 i142_6 rfl rfl ?_
        refine wLl 9 i142_7 rfl rfl ?_
        refine wA 10 i142_9 rfl rfl rfl ?_
        by_cases c4 : 3 < (a3)
        ·
          refine wZT 17 i142_10 rfl (decide_eq_true (wl_gt (l := 3) (by decide) c4)) ?_
          refine wK 18 0 i142_17 (by decide) rfl ?_
          refine jRi i142_18 m142 (by decide) ?_
          refine jRi i149_9 m149 (by decide) ?_
          refine wZF 17 14 i123_11 rfl (by decide) rfl ?_
          refine wKb 16 (-2) i123_14 (by decide) rfl ?_
          refine wRi i123_16 m123 rfl ?_
          refine ⟨congrArg (fun z => some (Value.int z)) ?_, rfl⟩
          unfold sp_copy
          repeat' split
          all_goals first | rfl | (exfalso; simp only [Int32.lt_iff_toInt_lt, Int32.le_iff_toInt_le, ← Int32.toInt_inj] at * <;> (simp at * <;> omega))
        ·
          refine wZF 17 13 i142_10 rfl (decide_eq_false (wl_ngt (l := 3) (by decide) c4)) rfl ?_
          refine wK 14 1 i142_13 (by decide) rfl ?_
          refine wGo 18 i142_14 rfl ?_
          refine jRi i142_18 m142 (by decide) ?_
          refine jRi i149_9 m149 (by decide) ?_
          refine wZT 17 i123_11 rfl (by decide) ?_
          refine wLan 18 i123_17 rfl rfl ?_
          refine wGet 21 (.ref 126) i123_18 f123_163 rfl rfl rfl ?_
          refine wLin 22 i123_21 rfl rfl ?_
          refine wZal 23 i123_22 rfl (x_ib (Int32.not_lt.mp c1) (Int32.not_lt.mp c2) (by decide) (by decide)) rfl ?_
          refine tTop (v := 0) rfl ?_
          refine wZT 35 i123_23 rfl (by decide) ?_
          refine wKb 37 (-11) i123_35 (by decide) rfl ?_
          refine wRi i123_37 m123 rfl ?_
          refine ⟨congrArg (fun z => some (Value.int z)) ?_, rfl⟩
          unfold sp_copy
          repeat' split
          all_goals first | rfl | (exfalso; simp only [Int32.lt_iff_toInt_lt, Int32.le_iff_toInt_le, ← Int32.toInt_inj] at * <;> (simp at * <;> omega))
set_option maxHeartbeats 4000000 in
set_option maxRecDepth 100000 in
theorem r_lay {sc : xS} {d : Nat} (f : Nat → xE) (a1 : Int32) (a2 : Int32) (a3 : Int32) (a4 : Int32) (a5 : Int32) : xT xg sc (d + 12) 160 0 [(0, .ref 77), (1, .int (a1)), (2, .int (a2)), (3, .int (a3)), (4, .int (a4)), (5, .int (a5))] [] (hM f) (fun r => r.1 = some (.int (sp_lay a1 a2 a3 a4 a5)) ∧ r.2.2 = (0, 0)) := by
  refine wLin 1 i160_0 rfl rfl ?_
  refine jCall 4 [.int (a1)] [] [(0, .int (a1))] i160_1 rfl (xlk1 l160_403) (Or.inr (Or.inl rfl)) m149 rfl rfl (Nat.le_of_ble_eq_true rfl) (Nat.le_of_ble_eq_true rfl) (Nat.le_of_ble_eq_true rfl) rfl rfl rfl ?_
  refine wLin 1 i149_0 rfl rfl ?_
  refine wA 2 i149_1 rfl rfl rfl ?_
  refine wKl 3 0 i149_2 (by decide) rfl ?_
  refine wKd 6 3 i149_3 c149_272 rfl ?_
  refine jCall 9 [.long ((a1).toInt64), .long 0, .long 3] [] [(0, .long ((a1).toInt64)), (2, .long 0), (4, .long 3)] i149_6 rfl (xlk1 l149_177) (Or.inr (Or.inl rfl)) m142 rfl rfl (Nat.le_of_ble_eq_true rfl) (Nat.le_of_ble_eq_true rfl) (Nat.le_of_ble_eq_true rfl) rfl rfl rfl ?_
  refine wLln 1 i142_0 rfl rfl ?_
  refine wLln 2 i142_1 rfl rfl ?_
  refine wA 3 i142_2 rfl rfl rfl ?_
  by_cases c1 : (a1) < 0
  ·
    refine wZT 17 i142_3 rfl (decide_eq_true (wl_lt (l := 0) (by decide) c1)) ?_
    refine wK 18 0 i142_17 (by decide) rfl ?_
    refine jRi i142_18 m142 (by decide) ?_
    refine jRi i149_9 m149 (by decide) ?_
    refine wZT 39 i160_4 rfl (by decide) ?_
    refine wKb 41 (-2) i160_39 (by decide) rfl ?_
    refine wRi i160_41 m160 rfl ?_
    refine ⟨congrArg (fun z => some (Value.int z)) ?_, rfl⟩
    unfold sp_lay
    repeat' split
    all_goals first | rfl | (exfalso; simp only [Int32.lt_iff_toInt_lt, Int32.le_iff_toInt_le, ← Int32.toInt_inj] at * <;> (simp at * <;> omega))
  ·
    refine wZF 17 6 i142_3 rfl (decide_eq_false (wl_nlt (l := 0) (by decide) c1)) rfl ?_
    refine wLln 7 i142_6 rfl rfl ?_
    refine wLl 9 i142_7 rfl rfl ?_
    refine wA 10 i142_9 rfl rfl rfl ?_
    by_cases c2 : 3 < (a1)
    ·
      refine wZT 17 i142_10 rfl (decide_eq_true (wl_gt (l := 3) (by decide) c2)) ?_
      refine wK 18 0 i142_17 (by decide) rfl ?_
      refine jRi i142_18 m142 (by decide) ?_
      refine jRi i149_9 m149 (by decide) ?_
      refine wZT 39 i160_4 rfl (by decide) ?_
      refine wKb 41 (-2) i160_39 (by decide) rfl ?_
      refine wRi i160_41 m160 rfl ?_
      refine ⟨congrArg (fun z => some (Value.int z)) ?_, rfl⟩
      unfold sp_lay
      repeat' split
      all_goals first | rfl | (exfalso; simp only [Int32.lt_iff_toInt_lt, Int32.le_iff_toInt_le, ← Int32.toInt_inj] at * <;> (simp at * <;> omega))
    ·
      refine wZF 17 13 i142_10 rfl (decide_eq_false (wl_ngt (l := 3) (by decide) c2)) rfl ?_
      refine wK 14 1 i142_13 (by decide) rfl ?_
      refine wGo 18 i142_14 rfl ?_
      refine jRi i142_18 m142 (by decide) ?_
      refine jRi i149_9 m149 (by decide) ?_
      refine wZF 39 7 i160_4 rfl (by decide) rfl ?_
      refine wLin 8 i160_7 rfl rfl ?_
      refine jCall 11 [.int (a2)] [] [(0, .int (a2))] i160_8 rfl (xlk1 l160_266) (Or.inr (Or.inl rfl)) m153 rfl rfl (Nat.le_of_ble_eq_true rfl) (Nat.le_of_ble_eq_true rfl) (Nat.le_of_ble_eq_true rfl) rfl rfl rfl ?_
      refine wLin 1 i153_0 rfl rfl ?_
      refine wA 2 i153_1 rfl rfl rfl ?_
      refine wKl 3 0 i153_2 (by decide) rfl ?_
      refine wKd 6 7 i153_3 c153_175 rfl ?_
      refine jCall 9 [.long ((a2).toInt64), .long 0, .long 7] [] [(0, .long ((a2).toInt64)), (2, .long 0), (4, .long 7)] i153_6 rfl (xlk1 l153_177) (Or.inr (Or.inl rfl)) m142 rfl rfl (Nat.le_of_ble_eq_true rfl) (Nat.le_of_ble_eq_true rfl) (Nat.le_of_ble_eq_true rfl) rfl rfl rfl ?_
      refine wLln 1 i142_0 rfl rfl ?_
      refine wLln 2 i142_1 rfl rfl ?_
      refine wA 3 i142_2 rfl rfl rfl ?_
      by_cases c3 : (a2) < 0
      ·
        refine wZT 17 i142_3 rfl (decide_eq_true (wl_lt (l := 0) (by decide) c3)) ?_
        refine wK 18 0 i142_17 (by decide) rfl ?_
        refine jRi i142_18 m142 (by decide) ?_
        refine jRi i153_9 m153 (by decide) ?_
        refine wZT 39 i160_11 rfl (by decide) ?_
        refine wKb 41 (-2) i160_39 (by decide) rfl ?_
        refine wRi i160_41 m160 rfl ?_
        refine ⟨congrArg (fun z => some (Value.int z)) ?_, rfl⟩
        unfold sp_lay
        repeat' split
        all_goals first | rfl | (exfalso; simp only [Int32.lt_iff_toInt_lt, Int32.le_iff_toInt_le, ← Int32.toInt_inj] at * <;> (simp at * <;> omega))
      ·
        refine wZF 17 6 i142_3 rfl (decide_eq_false (wl_nlt (l := 0) (by decide) c3)) rfl ?_
        refine wLln 7 i142_6 rfl rfl ?_
        refine wLl 9 i142_7 rfl rfl ?_
        refine wA 10 i142_9 rfl rfl rfl ?_
        by_cases c4 : 7 < (a2)
        ·
          refine wZT 17 i142_10 rfl (decide_eq_true (wl_gt (l := 7) (by decide) c4)) ?_
          refine wK 18 0 i142_17 (by decide) rfl ?_
          refine jRi i142_18 m142 (by decide) ?_
          refine jRi i153_9 m153 (by decide) ?_
          refine wZT 39 i160_11 rfl (by decide) ?_
          refine wKb 41 (-2) i160_39 (by decide) rfl ?_
          refine wRi i160_41 m160 rfl ?_
          refine ⟨congrArg (fun z => some (Value.int z)) ?_, rfl⟩
          unfold sp_lay
          repeat' split
          all_goals first | rfl | (exfalso; simp only [Int32.lt_iff_toInt_lt, Int32.le_iff_toInt_le, ← Int32.toInt_inj] at * <;> (simp at * <;> omega))
        ·
          refine wZF 17 13 i142_10 rfl (decide_eq_false (wl_ngt (l := 7) (by decide) c4)) rfl ?_
          refine wK 14 1 i142_13 (by decide) rfl ?_
          refine wGo 18 i142_14 rfl ?_
          refine jRi i142_18 m142 (by decide) ?_
          refine jRi i153_9 m153 (by decide) ?_
          refine wZF 39 14 i160_11 rfl (by decide) rfl ?_
          refine wLin 15 i160_14 rfl rfl ?_
          refine wA 16 i160_15 rfl rfl rfl ?_
          refine wKl 17 0 i160_16 (by decide) rfl ?_
          refine wKd 20 2 i160_17 c160_293 rfl ?_
          refine jCall 23 [.long ((a3).toInt64), .long 0, .long 2] [] [(0, .long ((a3).toInt64)), (2, .long 0), (4, .long 2)] i160_20 rfl (xlk1 l160_177) (Or.inr (Or.inl rfl)) m142 rfl rfl (Nat.le_of_ble_eq_true rfl) (Nat.le_of_ble_eq_true rfl) (Nat.le_of_ble_eq_true rfl) rfl rfl rfl ?_
          refine wLln 1 i142_0 rfl rfl ?_
          refine wLln 2 i142_1 rfl rfl ?_
          refine wA 3 i142_2 rfl rfl rfl ?_
          by_cases c5 : (a3) < 0
          ·
            refine wZT 17 i142_3 rfl (decide_eq_true (wl_lt (l := 0) (by decide) c5)) ?_
            refine wK 18 0 i142_17 (by decide) rfl ?_
            refine jRi i142_18 m142 (by decide) ?_
            refine wZT 39 i160_23 rfl (by decide) ?_
            refine wKb 41 (-2) i160_39 (by decide) rfl ?_
            refine wRi i160_41 m160 rfl ?_
            refine ⟨congrArg (fun z => some (Value.int z)) ?_, rfl⟩
            unfold sp_lay
            repeat' split
            all_goals first | rfl | (exfalso; simp only [Int32.lt_iff_toInt_lt, Int32.le_iff_toInt_le, ← Int32.toInt_inj] at * <;> (simp at * <;> omega))
          ·
            refine wZF 17 6 i142_3 rfl (decide_eq_false (wl_nlt (l := 0) (by decide) c5)) rfl ?_
            refine wLln 7 i142_6 rfl rfl ?_
            refine wLl 9 i142_7 rfl rfl ?_
            refine wA 10 i142_9 rfl rfl rfl ?_
            by_cases c6 : 2 < (a3)
            ·
              refine wZT 17 i142_10 rfl (decide_eq_true (wl_gt (l := 2) (by decide) c6)) ?_
              refine wK 18 0 i142_17 (by decide) rfl ?_
              refine jRi i142_18 m142 (by decide) ?_
              refine wZT 39 i160_23 rfl (by decide) ?_
              refine wKb 41 (-2) i160_39 (by decide) rfl ?_
              refine wRi i160_41 m160 rfl ?_
              refine ⟨congrArg (fun z => some (Value.int z)) ?_, rfl⟩
              unfold sp_lay
              repeat' split
              all_goals first | rfl | (exfalso; simp only [Int32.lt_iff_toInt_lt, Int32.le_iff_toInt_le, ← Int32.toInt_inj] at * <;> (simp at * <;> omega))
            ·
              refine wZF 17 13 i142_10 rfl (decide_eq_false (wl_ngt (l := 2) (by decide) c6)) rfl ?_
              refine wK 14 1 i142_13 (by decide) rfl ?_
              refine wGo 18 i142_14 rfl ?_
              refine jRi i142_18 m142 (by decide) ?_
              refine wZF 39 26 i160_23 rfl (by decide) rfl ?_
              refine wLi 28 i160_26 rfl rfl ?_
              refine wA 29 i160_28 rfl rfl rfl ?_
              refine wKl 30 1 i160_29 (by decide) rfl ?_
              refine wKd 33 8 i160_30 c160_429 rfl ?_
              refine jCall 36 [.long ((a5).toInt64), .long 1, .long 8] [] [(0, .long ((a5).toInt64)), (2, .long 1), (4, .long 8)] i160_33 rfl (xlk1 l160_177) (Or.inr (Or.inl rfl)) m142 rfl rfl (Nat.le_of_ble_eq_true rfl) (Nat.le_of_ble_eq_true rfl) (Nat.le_of_ble_eq_true rfl) rfl rfl rfl ?_
              refine wLln 1 i142_0 rfl rfl ?_
              refine wLln 2 i142_1 rfl rfl ?_
              refine wA 3 i142_2 rfl rfl rfl ?_
              by_cases c7 : (a5) < 1
              ·
                refine wZT 17 i142_3 rfl (decide_eq_true (wl_lt (l := 1) (by decide) c7)) ?_
                refine wK 18 0 i142_17 (by decide) rfl ?_
                refine jRi i142_18 m142 (by decide) ?_
                refine wZF 42 39 i160_36 rfl (by decide) rfl ?_
                refine wKb 41 (-2) i160_39 (by decide) rfl ?_
                refine wRi i160_41 m160 rfl ?_
                refine ⟨congrArg (fun z => some (Value.int z)) ?_, rfl⟩
                unfold sp_lay
                repeat' split
                all_goals first | rfl | (exfalso; simp only [Int32.lt_iff_toInt_lt, Int32.le_iff_toInt_le, ← Int32.toInt_inj] at * <;> (simp at * <;> omega))
              ·
                refine wZF 17 6 i142_3 rfl (decide_eq_false (wl_nlt (l := 1) (by decide) c7)) rfl ?_
                refine wLln 7 i142_6 rfl rfl ?_
                refine wLl 9 i142_7 rfl rfl ?_
                refine wA 10 i142_9 rfl rfl rfl ?_
                by_cases c8 : 8 < (a5)
                ·
                  refine wZT 17 i142_10 rfl (decide_eq_true (wl_gt (l := 8) (by decide) c8)) ?_
                  refine wK 18 0 i142_17 (by decide) rfl ?_
                  refine jRi i142_18 m142 (by decide) ?_
                  refine wZF 42 39 i160_36 rfl (by decide) rfl ?_
                  refine wKb 41 (-2) i160_39 (by decide) rfl ?_
                  refine wRi i160_41 m160 rfl ?_
                  refine ⟨congrArg (fun z => some (Value.int z)) ?_, rfl⟩
                  unfold sp_lay
                  repeat' split
                  all_goals first | rfl | (exfalso; simp only [Int32.lt_iff_toInt_lt, Int32.le_iff_toInt_le, ← Int32.toInt_inj] at * <;> (simp at * <;> omega))
                ·
                  refine wZF 17 13 i142_10 rfl (decide_eq_false (wl_ngt (l := 8) (by decide) c8)) rfl ?_
                  refine wK 14 1 i142_13 (by decide) rfl ?_
                  refine wGo 18 i142_14 rfl ?_
                  refine jRi i142_18 m142 (by decide) ?_
                  refine wZT 42 i160_36 rfl (by decide) ?_
                  refine wLan 43 i160_42 rfl rfl ?_
                  refine wGet 46 (.ref 126) i160_43 f160_163 rfl rfl rfl ?_
                  refine wLin 47 i160_46 rfl rfl ?_
                  refine wZal 48 i160_47 rfl (x_ib (Int32.not_lt.mp c1) (Int32.not_lt.mp c2) (by decide) (by decide)) rfl ?_
                  refine tTop (v := 0) rfl ?_
                  refine wZT 64 i160_48 rfl (by decide) ?_
                  refine wLan 65 i160_64 rfl rfl ?_
                  refine wGet 68 (.ref 126) i160_65 f160_163 rfl rfl rfl ?_
                  refine wLin 69 i160_68 rfl rfl ?_
                  refine wZal 70 i160_69 rfl (x_ib (Int32.not_lt.mp c1) (Int32.not_lt.mp c2) (by decide) (by decide)) rfl ?_
                  refine tTop (v := 0) rfl ?_
                  refine wZF 76 73 i160_70 rfl (by decide) rfl ?_
                  refine wKb 75 (-11) i160_73 (by decide) rfl ?_
                  refine wRi i160_75 m160 rfl ?_
                  refine ⟨congrArg (fun z => some (Value.int z)) ?_, rfl⟩
                  unfold sp_lay
                  repeat' split
                  all_goals first | rfl | (exfalso; simp only [Int32.lt_iff_toInt_lt, Int32.le_iff_toInt_le, ← Int32.toInt_inj] at * <;> (simp at * <;> omega))
