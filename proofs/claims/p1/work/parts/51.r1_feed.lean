theorem i131_0 : xIns xg 131 0 = some (.iload_n 1) := by decide +kernel
theorem i131_1 : xIns xg 131 1 = some (.i2l) := by decide +kernel
theorem i131_2 : xIns xg 131 2 = some (.lconst 0) := by decide +kernel
theorem i131_3 : xIns xg 131 3 = some (.ldc2_w 181) := by decide +kernel
theorem c131_181 : xCon xg 131 181 = some (.long (255)) := by decide +kernel
theorem i131_6 : xIns xg 131 6 = some (.invokestatic 177) := by decide +kernel
theorem l131_177 : xMth xg 131 177 = some (1, 142, 3, 0) := by decide +kernel
theorem m142 : (xMet xg 142).2.2 = (6, (some .boolean)) := by decide +kernel
theorem i142_0 : xIns xg 142 0 = some (.lload_n 0) := by decide +kernel
theorem i142_1 : xIns xg 142 1 = some (.lload_n 2) := by decide +kernel
theorem i142_2 : xIns xg 142 2 = some (.lcmp) := by decide +kernel
theorem i142_3 : xIns xg 142 3 = some (.ifCond .lt 14) := by decide +kernel
theorem i142_17 : xIns xg 142 17 = some (.iconst 0) := by decide +kernel
theorem i142_18 : xIns xg 142 18 = some (.ireturn) := by decide +kernel
theorem i131_9 : xIns xg 131 9 = some (.ifCond .ne 6) := by decide +kernel
theorem i131_12 : xIns xg 131 12 = some (.bipush (-2)) := by decide +kernel
theorem i131_14 : xIns xg 131 14 = some (.ireturn) := by decide +kernel
theorem m131 : (xMet xg 131).2.2 = (2, (some .int)) := by decide +kernel
theorem i142_6 : xIns xg 142 6 = some (.lload_n 0) := by decide +kernel
theorem i142_7 : xIns xg 142 7 = some (.lload 4) := by decide +kernel
theorem i142_9 : xIns xg 142 9 = some (.lcmp) := by decide +kernel
theorem i142_10 : xIns xg 142 10 = some (.ifCond .gt 7) := by decide +kernel
theorem i142_13 : xIns xg 142 13 = some (.iconst 1) := by decide +kernel
theorem i142_14 : xIns xg 142 14 = some (.goto 4) := by decide +kernel
theorem i131_15 : xIns xg 131 15 = some (.aload_n 0) := by decide +kernel
theorem i131_16 : xIns xg 131 16 = some (.getfield 183) := by decide +kernel
theorem f131_183 : xFld xg 131 183 = some (7, 19) := by decide +kernel
theorem i131_19 : xIns xg 131 19 = some (.bipush 120) := by decide +kernel
theorem i131_21 : xIns xg 131 21 = some (.if_icmp .ne 6) := by decide +kernel
theorem i131_27 : xIns xg 131 27 = some (.aload_n 0) := by decide +kernel
theorem i131_28 : xIns xg 131 28 = some (.getfield 67) := by decide +kernel
theorem f131_67 : xFld xg 131 67 = some (7, 18) := by decide +kernel
theorem i131_31 : xIns xg 131 31 = some (.aload_n 0) := by decide +kernel
theorem i131_32 : xIns xg 131 32 = some (.getfield 183) := by decide +kernel
theorem i131_35 : xIns xg 131 35 = some (.iload_n 1) := by decide +kernel
theorem i131_36 : xIns xg 131 36 = some (.iastore) := by decide +kernel
theorem i131_37 : xIns xg 131 37 = some (.aload_n 0) := by decide +kernel
theorem i131_38 : xIns xg 131 38 = some (.dup) := by decide +kernel
theorem i131_39 : xIns xg 131 39 = some (.getfield 183) := by decide +kernel
theorem i131_42 : xIns xg 131 42 = some (.iconst 1) := by decide +kernel
theorem i131_43 : xIns xg 131 43 = some (.iadd) := by decide +kernel
theorem i131_44 : xIns xg 131 44 = some (.putfield 183) := by decide +kernel
theorem p131_183 : xPut xg 131 183 = some (7, 19, .int) := by decide +kernel
theorem i131_47 : xIns xg 131 47 = some (.aload_n 0) := by decide +kernel
theorem i131_48 : xIns xg 131 48 = some (.getfield 183) := by decide +kernel
theorem i131_51 : xIns xg 131 51 = some (.ireturn) := by decide +kernel
theorem i190_0 : xIns xg 190 0 = some (.iload_n 1) := by decide +kernel
theorem i190_1 : xIns xg 190 1 = some (.invokestatic 266) := by decide +kernel
theorem l190_266 : xMth xg 190 266 = some (1, 153, 1, 0) := by decide +kernel
theorem m153 : (xMet xg 153).2.2 = (1, (some .boolean)) := by decide +kernel
theorem i153_0 : xIns xg 153 0 = some (.iload_n 0) := by decide +kernel
theorem i153_1 : xIns xg 153 1 = some (.i2l) := by decide +kernel
theorem i153_2 : xIns xg 153 2 = some (.lconst 0) := by decide +kernel
theorem i153_3 : xIns xg 153 3 = some (.ldc2_w 175) := by decide +kernel
theorem c153_175 : xCon xg 153 175 = some (.long (7)) := by decide +kernel
theorem i153_6 : xIns xg 153 6 = some (.invokestatic 177) := by decide +kernel
theorem l153_177 : xMth xg 153 177 = some (1, 142, 3, 0) := by decide +kernel
theorem i153_9 : xIns xg 153 9 = some (.ireturn) := by decide +kernel
theorem i190_4 : xIns xg 190 4 = some (.ifCond .ne 6) := by decide +kernel
theorem i190_7 : xIns xg 190 7 = some (.bipush (-2)) := by decide +kernel
theorem i190_9 : xIns xg 190 9 = some (.ireturn) := by decide +kernel
theorem m190 : (xMet xg 190).2.2 = (5, (some .int)) := by decide +kernel
theorem i190_10 : xIns xg 190 10 = some (.aload_n 0) := by decide +kernel
theorem i190_11 : xIns xg 190 11 = some (.iconst 0) := by decide +kernel
theorem i190_12 : xIns xg 190 12 = some (.putfield 186) := by decide +kernel
theorem p190_186 : xPut xg 190 186 = some (7, 20, .int) := by decide +kernel
theorem i190_15 : xIns xg 190 15 = some (.aload_n 0) := by decide +kernel
theorem i190_16 : xIns xg 190 16 = some (.iconst 0) := by decide +kernel
theorem i190_17 : xIns xg 190 17 = some (.putfield 218) := by decide +kernel
theorem p190_218 : xPut xg 190 218 = some (7, 24, .boolean) := by decide +kernel
theorem i190_20 : xIns xg 190 20 = some (.aload_n 0) := by decide +kernel
theorem i190_21 : xIns xg 190 21 = some (.iconst 0) := by decide +kernel
theorem i190_22 : xIns xg 190 22 = some (.putfield 248) := by decide +kernel
theorem p190_248 : xPut xg 190 248 = some (7, 26, .int) := by decide +kernel
theorem i190_25 : xIns xg 190 25 = some (.aload_n 0) := by decide +kernel
theorem i190_26 : xIns xg 190 26 = some (.invokevirtual 238) := by decide +kernel
theorem l190_238 : xMth xg 190 238 = some (0, 167, 1, 7) := by decide +kernel
theorem m167 : (xMet xg 167).2.2 = (3, none) := by decide +kernel
theorem i167_0 : xIns xg 167 0 = some (.aload_n 0) := by decide +kernel
theorem i167_1 : xIns xg 167 1 = some (.aload_n 0) := by decide +kernel
theorem i167_2 : xIns xg 167 2 = some (.getfield 186) := by decide +kernel
theorem f167_186 : xFld xg 167 186 = some (7, 20) := by decide +kernel
theorem i167_5 : xIns xg 167 5 = some (.invokevirtual 189) := by decide +kernel
theorem l167_189 : xMth xg 167 189 = some (0, 122, 2, 7) := by decide +kernel
theorem m122 : (xMet xg 122).2.2 = (2, (some .int)) := by decide +kernel
theorem i122_0 : xIns xg 122 0 = some (.iload_n 1) := by decide +kernel
theorem i122_1 : xIns xg 122 1 = some (.aload_n 0) := by decide +kernel
theorem i122_2 : xIns xg 122 2 = some (.getfield 183) := by decide +kernel
theorem f122_183 : xFld xg 122 183 = some (7, 19) := by decide +kernel
theorem i122_5 : xIns xg 122 5 = some (.if_icmp .ge 12) := by decide +kernel
theorem i122_17 : xIns xg 122 17 = some (.iconst (-1)) := by decide +kernel
theorem i122_18 : xIns xg 122 18 = some (.ireturn) := by decide +kernel
theorem i167_8 : xIns xg 167 8 = some (.bipush 32) := by decide +kernel
theorem i167_10 : xIns xg 167 10 = some (.if_icmp .eq 16) := by decide +kernel
theorem i167_13 : xIns xg 167 13 = some (.aload_n 0) := by decide +kernel
theorem i167_14 : xIns xg 167 14 = some (.aload_n 0) := by decide +kernel
theorem i167_15 : xIns xg 167 15 = some (.getfield 186) := by decide +kernel
theorem i167_18 : xIns xg 167 18 = some (.invokevirtual 189) := by decide +kernel
theorem i167_21 : xIns xg 167 21 = some (.bipush 10) := by decide +kernel
theorem i167_23 : xIns xg 167 23 = some (.if_icmp .ne 16) := by decide +kernel
theorem i167_39 : xIns xg 167 39 = some (.aload_n 0) := by decide +kernel
theorem i167_40 : xIns xg 167 40 = some (.aload_n 0) := by decide +kernel
theorem i167_41 : xIns xg 167 41 = some (.getfield 186) := by decide +kernel
theorem i167_44 : xIns xg 167 44 = some (.putfield 193) := by decide +kernel
theorem p167_193 : xPut xg 167 193 = some (7, 22, .int) := by decide +kernel
theorem i167_47 : xIns xg 167 47 = some (.aload_n 0) := by decide +kernel
theorem i167_48 : xIns xg 167 48 = some (.aload_n 0) := by decide +kernel
theorem i167_49 : xIns xg 167 49 = some (.getfield 186) := by decide +kernel
theorem i167_52 : xIns xg 167 52 = some (.invokevirtual 189) := by decide +kernel
theorem i167_55 : xIns xg 167 55 = some (.istore_n 1) := by decide +kernel
theorem i167_56 : xIns xg 167 56 = some (.aload_n 0) := by decide +kernel
theorem i167_57 : xIns xg 167 57 = some (.iconst 4) := by decide +kernel
theorem i167_58 : xIns xg 167 58 = some (.putfield 196) := by decide +kernel
theorem p167_196 : xPut xg 167 196 = some (7, 21, .int) := by decide +kernel
theorem i167_61 : xIns xg 167 61 = some (.iload_n 1) := by decide +kernel
theorem i167_62 : xIns xg 167 62 = some (.ifCond .ge 19) := by decide +kernel
theorem i167_65 : xIns xg 167 65 = some (.aload_n 0) := by decide +kernel
theorem i167_66 : xIns xg 167 66 = some (.iconst 0) := by decide +kernel
theorem i167_67 : xIns xg 167 67 = some (.putfield 196) := by decide +kernel
theorem i167_70 : xIns xg 167 70 = some (.aload_n 0) := by decide +kernel
theorem i167_71 : xIns xg 167 71 = some (.aload_n 0) := by decide +kernel
theorem i167_72 : xIns xg 167 72 = some (.getfield 183) := by decide +kernel
theorem f167_183 : xFld xg 167 183 = some (7, 19) := by decide +kernel
theorem i167_75 : xIns xg 167 75 = some (.putfield 193) := by decide +kernel
theorem i167_78 : xIns xg 167 78 = some (.goto 208) := by decide +kernel
theorem i167_286 : xIns xg 167 286 = some (.return_) := by decide +kernel
theorem i190_29 : xIns xg 190 29 = some (.aload_n 0) := by decide +kernel
theorem i190_30 : xIns xg 190 30 = some (.invokevirtual 263) := by decide +kernel
theorem l190_263 : xMth xg 190 263 = some (0, 182, 1, 7) := by decide +kernel
theorem m182 : (xMet xg 182).2.2 = (3, none) := by decide +kernel
theorem i182_0 : xIns xg 182 0 = some (.aload_n 0) := by decide +kernel
theorem i182_1 : xIns xg 182 1 = some (.getfield 218) := by decide +kernel
theorem f182_218 : xFld xg 182 218 = some (7, 24) := by decide +kernel
theorem i182_4 : xIns xg 182 4 = some (.ifCond .ne 20) := by decide +kernel
theorem i182_7 : xIns xg 182 7 = some (.aload_n 0) := by decide +kernel
theorem i182_8 : xIns xg 182 8 = some (.getfield 196) := by decide +kernel
theorem f182_196 : xFld xg 182 196 = some (7, 21) := by decide +kernel
theorem i182_11 : xIns xg 182 11 = some (.iconst 1) := by decide +kernel
theorem i182_12 : xIns xg 182 12 = some (.if_icmp .ne 12) := by decide +kernel
theorem i182_24 : xIns xg 182 24 = some (.aload_n 0) := by decide +kernel
theorem i182_25 : xIns xg 182 25 = some (.invokevirtual 245) := by decide +kernel
theorem l182_245 : xMth xg 182 245 = some (0, 130, 1, 7) := by decide +kernel
theorem m130 : (xMet xg 130).2.2 = (1, none) := by decide +kernel
theorem i130_0 : xIns xg 130 0 = some (.aload_n 0) := by decide +kernel
theorem i130_1 : xIns xg 130 1 = some (.getfield 218) := by decide +kernel
theorem f130_218 : xFld xg 130 218 = some (7, 24) := by decide +kernel
theorem i130_4 : xIns xg 130 4 = some (.ifCond .ne 16) := by decide +kernel
theorem i130_7 : xIns xg 130 7 = some (.aload_n 0) := by decide +kernel
theorem i130_8 : xIns xg 130 8 = some (.iconst 1) := by decide +kernel
theorem i130_9 : xIns xg 130 9 = some (.putfield 218) := by decide +kernel
theorem p130_218 : xPut xg 130 218 = some (7, 24, .boolean) := by decide +kernel
theorem i130_12 : xIns xg 130 12 = some (.aload_n 0) := by decide +kernel
theorem i130_13 : xIns xg 130 13 = some (.aload_n 0) := by decide +kernel
theorem i130_14 : xIns xg 130 14 = some (.getfield 193) := by decide +kernel
theorem f130_193 : xFld xg 130 193 = some (7, 22) := by decide +kernel
theorem i130_17 : xIns xg 130 17 = some (.putfield 222) := by decide +kernel
theorem p130_222 : xPut xg 130 222 = some (7, 25, .int) := by decide +kernel
theorem i130_20 : xIns xg 130 20 = some (.return_) := by decide +kernel
theorem i182_28 : xIns xg 182 28 = some (.return_) := by decide +kernel
theorem i190_33 : xIns xg 190 33 = some (.aload_n 0) := by decide +kernel
theorem i190_34 : xIns xg 190 34 = some (.getfield 218) := by decide +kernel
theorem f190_218 : xFld xg 190 218 = some (7, 24) := by decide +kernel
theorem i190_37 : xIns xg 190 37 = some (.ifCond .ne 14) := by decide +kernel
theorem i190_51 : xIns xg 190 51 = some (.aload_n 0) := by decide +kernel
theorem i190_52 : xIns xg 190 52 = some (.iconst 0) := by decide +kernel
theorem i190_53 : xIns xg 190 53 = some (.putfield 183) := by decide +kernel
theorem p190_183 : xPut xg 190 183 = some (7, 19, .int) := by decide +kernel
theorem i190_56 : xIns xg 190 56 = some (.aload_n 0) := by decide +kernel
theorem i190_57 : xIns xg 190 57 = some (.getfield 218) := by decide +kernel
theorem i190_60 : xIns xg 190 60 = some (.ifCond .eq 11) := by decide +kernel
theorem i190_63 : xIns xg 190 63 = some (.bipush (-100)) := by decide +kernel
theorem i190_65 : xIns xg 190 65 = some (.aload_n 0) := by decide +kernel
theorem i190_66 : xIns xg 190 66 = some (.getfield 222) := by decide +kernel
theorem f190_222 : xFld xg 190 222 = some (7, 25) := by decide +kernel
theorem i190_69 : xIns xg 190 69 = some (.isub) := by decide +kernel
theorem i190_70 : xIns xg 190 70 = some (.ireturn) := by decide +kernel
theorem i128_0 : xIns xg 128 0 = some (.iload_n 1) := by decide +kernel
theorem i128_1 : xIns xg 128 1 = some (.invokestatic 266) := by decide +kernel
theorem l128_266 : xMth xg 128 266 = some (1, 153, 1, 0) := by decide +kernel
theorem i128_4 : xIns xg 128 4 = some (.ifCond .ne 6) := by decide +kernel
theorem i128_7 : xIns xg 128 7 = some (.bipush (-2)) := by decide +kernel
theorem i128_9 : xIns xg 128 9 = some (.ireturn) := by decide +kernel
theorem m128 : (xMet xg 128).2.2 = (3, (some .int)) := by decide +kernel
theorem i128_10 : xIns xg 128 10 = some (.aload_n 0) := by decide +kernel
theorem i128_11 : xIns xg 128 11 = some (.getfield 13) := by decide +kernel
theorem f128_13 : xFld xg 128 13 = some (7, 1) := by decide +kernel
theorem i128_14 : xIns xg 128 14 = some (.iload_n 1) := by decide +kernel
theorem i128_15 : xIns xg 128 15 = some (.iaload) := by decide +kernel
theorem i128_16 : xIns xg 128 16 = some (.istore_n 2) := by decide +kernel
theorem i128_17 : xIns xg 128 17 = some (.aload_n 0) := by decide +kernel
theorem i128_18 : xIns xg 128 18 = some (.getfield 13) := by decide +kernel
theorem i128_21 : xIns xg 128 21 = some (.iload_n 1) := by decide +kernel
theorem i128_22 : xIns xg 128 22 = some (.iconst 0) := by decide +kernel
theorem i128_23 : xIns xg 128 23 = some (.iastore) := by decide +kernel
theorem i128_24 : xIns xg 128 24 = some (.aload_n 0) := by decide +kernel
theorem i128_25 : xIns xg 128 25 = some (.invokevirtual 269) := by decide +kernel
theorem l128_269 : xMth xg 128 269 = some (0, 195, 1, 7) := by decide +kernel
theorem i128_28 : xIns xg 128 28 = some (.iload_n 2) := by decide +kernel
theorem i128_29 : xIns xg 128 29 = some (.ireturn) := by decide +kernel
theorem i173_0 : xIns xg 173 0 = some (.iload_n 1) := by decide +kernel
theorem i173_1 : xIns xg 173 1 = some (.invokestatic 266) := by decide +kernel
theorem l173_266 : xMth xg 173 266 = some (1, 153, 1, 0) := by decide +kernel
theorem i173_4 : xIns xg 173 4 = some (.ifCond .eq 15) := by decide +kernel
theorem i173_19 : xIns xg 173 19 = some (.bipush (-2)) := by decide +kernel
theorem i173_21 : xIns xg 173 21 = some (.ireturn) := by decide +kernel
theorem m173 : (xMet xg 173).2.2 = (5, (some .int)) := by decide +kernel
theorem i173_7 : xIns xg 173 7 = some (.iload_n 3) := by decide +kernel
theorem i173_8 : xIns xg 173 8 = some (.i2l) := by decide +kernel
theorem i173_9 : xIns xg 173 9 = some (.lconst 0) := by decide +kernel
theorem i173_10 : xIns xg 173 10 = some (.ldc2_w 274) := by decide +kernel
theorem c173_274 : xCon xg 173 274 = some (.long (5)) := by decide +kernel
theorem i173_13 : xIns xg 173 13 = some (.invokestatic 177) := by decide +kernel
theorem l173_177 : xMth xg 173 177 = some (1, 142, 3, 0) := by decide +kernel
theorem i173_16 : xIns xg 173 16 = some (.ifCond .ne 6) := by decide +kernel
theorem i173_22 : xIns xg 173 22 = some (.aload_n 0) := by decide +kernel
theorem i173_23 : xIns xg 173 23 = some (.getfield 13) := by decide +kernel
theorem f173_13 : xFld xg 173 13 = some (7, 1) := by decide +kernel
theorem i173_26 : xIns xg 173 26 = some (.iload_n 1) := by decide +kernel
theorem i173_27 : xIns xg 173 27 = some (.iaload) := by decide +kernel
theorem i173_28 : xIns xg 173 28 = some (.ifCond .ne 6) := by decide +kernel
theorem i173_31 : xIns xg 173 31 = some (.bipush (-3)) := by decide +kernel
theorem i173_33 : xIns xg 173 33 = some (.ireturn) := by decide +kernel
theorem i169_0 : xIns xg 169 0 = some (.iload_n 1) := by decide +kernel
theorem i169_1 : xIns xg 169 1 = some (.invokestatic 266) := by decide +kernel
theorem l169_266 : xMth xg 169 266 = some (1, 153, 1, 0) := by decide +kernel
theorem i169_4 : xIns xg 169 4 = some (.ifCond .eq 43) := by decide +kernel
theorem i169_47 : xIns xg 169 47 = some (.ldc2_w 285) := by decide +kernel
theorem c169_285 : xCon xg 169 285 = some (.long (-4611686018427387904)) := by decide +kernel
theorem i169_50 : xIns xg 169 50 = some (.lreturn) := by decide +kernel
theorem m169 : (xMet xg 169).2.2 = (3, (some .long)) := by decide +kernel
theorem i169_7 : xIns xg 169 7 = some (.aload_n 0) := by decide +kernel
theorem i169_8 : xIns xg 169 8 = some (.iload_n 1) := by decide +kernel
theorem i169_9 : xIns xg 169 9 = some (.iload_n 2) := by decide +kernel
theorem i169_10 : xIns xg 169 10 = some (.invokevirtual 276) := by decide +kernel
theorem l169_276 : xMth xg 169 276 = some (0, 148, 3, 7) := by decide +kernel
theorem m148 : (xMet xg 148).2.2 = (3, (some .boolean)) := by decide +kernel
theorem i148_0 : xIns xg 148 0 = some (.iload_n 2) := by decide +kernel
theorem i148_1 : xIns xg 148 1 = some (.i2l) := by decide +kernel
theorem i148_2 : xIns xg 148 2 = some (.lconst 0) := by decide +kernel
theorem i148_3 : xIns xg 148 3 = some (.aload_n 0) := by decide +kernel
theorem i148_4 : xIns xg 148 4 = some (.getfield 13) := by decide +kernel
theorem f148_13 : xFld xg 148 13 = some (7, 1) := by decide +kernel
theorem i148_7 : xIns xg 148 7 = some (.iload_n 1) := by decide +kernel
theorem i148_8 : xIns xg 148 8 = some (.iaload) := by decide +kernel
theorem i148_9 : xIns xg 148 9 = some (.iconst 1) := by decide +kernel
theorem i148_10 : xIns xg 148 10 = some (.isub) := by decide +kernel
theorem i148_11 : xIns xg 148 11 = some (.i2l) := by decide +kernel
theorem i148_12 : xIns xg 148 12 = some (.invokestatic 177) := by decide +kernel
theorem l148_177 : xMth xg 148 177 = some (1, 142, 3, 0) := by decide +kernel
theorem i148_15 : xIns xg 148 15 = some (.ireturn) := by decide +kernel
theorem i169_13 : xIns xg 169 13 = some (.ifCond .eq 34) := by decide +kernel
theorem i129_0 : xIns xg 129 0 = some (.iload_n 1) := by decide +kernel
theorem i129_1 : xIns xg 129 1 = some (.invokestatic 266) := by decide +kernel
theorem l129_266 : xMth xg 129 266 = some (1, 153, 1, 0) := by decide +kernel
theorem i129_4 : xIns xg 129 4 = some (.ifCond .eq 69) := by decide +kernel
theorem i129_73 : xIns xg 129 73 = some (.ldc2_w 285) := by decide +kernel
theorem c129_285 : xCon xg 129 285 = some (.long (-4611686018427387904)) := by decide +kernel
theorem i129_76 : xIns xg 129 76 = some (.lreturn) := by decide +kernel
theorem m129 : (xMet xg 129).2.2 = (4, (some .long)) := by decide +kernel
theorem i129_7 : xIns xg 129 7 = some (.aload_n 0) := by decide +kernel
theorem i129_8 : xIns xg 129 8 = some (.iload_n 1) := by decide +kernel
theorem i129_9 : xIns xg 129 9 = some (.iload_n 2) := by decide +kernel
theorem i129_10 : xIns xg 129 10 = some (.invokevirtual 276) := by decide +kernel
theorem l129_276 : xMth xg 129 276 = some (0, 148, 3, 7) := by decide +kernel
theorem i129_13 : xIns xg 129 13 = some (.ifCond .eq 60) := by decide +kernel
theorem i194_0 : xIns xg 194 0 = some (.iload_n 1) := by decide +kernel
theorem i194_1 : xIns xg 194 1 = some (.invokestatic 266) := by decide +kernel
theorem l194_266 : xMth xg 194 266 = some (1, 153, 1, 0) := by decide +kernel
theorem i194_4 : xIns xg 194 4 = some (.ifCond .eq 17) := by decide +kernel
theorem i194_21 : xIns xg 194 21 = some (.bipush (-2)) := by decide +kernel
theorem i194_23 : xIns xg 194 23 = some (.ireturn) := by decide +kernel
theorem m194 : (xMet xg 194).2.2 = (5, (some .int)) := by decide +kernel
theorem i194_7 : xIns xg 194 7 = some (.iload_n 3) := by decide +kernel
theorem i194_8 : xIns xg 194 8 = some (.i2l) := by decide +kernel
theorem i194_9 : xIns xg 194 9 = some (.ldc2_w 287) := by decide +kernel
theorem c194_287 : xCon xg 194 287 = some (.long (-9999)) := by decide +kernel
theorem i194_12 : xIns xg 194 12 = some (.ldc2_w 289) := by decide +kernel
theorem c194_289 : xCon xg 194 289 = some (.long (9999)) := by decide +kernel
theorem i194_15 : xIns xg 194 15 = some (.invokestatic 177) := by decide +kernel
theorem l194_177 : xMth xg 194 177 = some (1, 142, 3, 0) := by decide +kernel
theorem i194_18 : xIns xg 194 18 = some (.ifCond .ne 6) := by decide +kernel
theorem i194_24 : xIns xg 194 24 = some (.aload_n 0) := by decide +kernel
theorem i194_25 : xIns xg 194 25 = some (.getfield 13) := by decide +kernel
theorem f194_13 : xFld xg 194 13 = some (7, 1) := by decide +kernel
theorem i194_28 : xIns xg 194 28 = some (.iload_n 1) := by decide +kernel
theorem i194_29 : xIns xg 194 29 = some (.iaload) := by decide +kernel
theorem i194_30 : xIns xg 194 30 = some (.ifCond .ne 6) := by decide +kernel
theorem i194_33 : xIns xg 194 33 = some (.bipush (-3)) := by decide +kernel
theorem i194_35 : xIns xg 194 35 = some (.ireturn) := by decide +kernel
theorem i186_0 : xIns xg 186 0 = some (.iload_n 1) := by decide +kernel
theorem i186_1 : xIns xg 186 1 = some (.invokestatic 266) := by decide +kernel
theorem l186_266 : xMth xg 186 266 = some (1, 153, 1, 0) := by decide +kernel
theorem i186_4 : xIns xg 186 4 = some (.ifCond .eq 15) := by decide +kernel
theorem i186_19 : xIns xg 186 19 = some (.bipush (-2)) := by decide +kernel
theorem i186_21 : xIns xg 186 21 = some (.ireturn) := by decide +kernel
theorem m186 : (xMet xg 186).2.2 = (4, (some .int)) := by decide +kernel
theorem i186_7 : xIns xg 186 7 = some (.iload_n 3) := by decide +kernel
theorem i186_8 : xIns xg 186 8 = some (.i2l) := by decide +kernel
theorem i186_9 : xIns xg 186 9 = some (.lconst 0) := by decide +kernel
theorem i186_10 : xIns xg 186 10 = some (.ldc2_w 293) := by decide +kernel
theorem c186_293 : xCon xg 186 293 = some (.long (2)) := by decide +kernel
theorem i186_13 : xIns xg 186 13 = some (.invokestatic 177) := by decide +kernel
theorem l186_177 : xMth xg 186 177 = some (1, 142, 3, 0) := by decide +kernel
theorem i186_16 : xIns xg 186 16 = some (.ifCond .ne 6) := by decide +kernel
theorem i186_22 : xIns xg 186 22 = some (.aload_n 0) := by decide +kernel
theorem i186_23 : xIns xg 186 23 = some (.getfield 13) := by decide +kernel
theorem f186_13 : xFld xg 186 13 = some (7, 1) := by decide +kernel
theorem i186_26 : xIns xg 186 26 = some (.iload_n 1) := by decide +kernel
theorem i186_27 : xIns xg 186 27 = some (.iaload) := by decide +kernel
theorem i186_28 : xIns xg 186 28 = some (.ifCond .ne 6) := by decide +kernel
theorem i186_31 : xIns xg 186 31 = some (.bipush (-3)) := by decide +kernel
theorem i186_33 : xIns xg 186 33 = some (.ireturn) := by decide +kernel
theorem i177_0 : xIns xg 177 0 = some (.iload_n 1) := by decide +kernel
theorem i177_1 : xIns xg 177 1 = some (.invokestatic 266) := by decide +kernel
theorem l177_266 : xMth xg 177 266 = some (1, 153, 1, 0) := by decide +kernel
theorem i177_4 : xIns xg 177 4 = some (.ifCond .ne 6) := by decide +kernel
theorem i177_7 : xIns xg 177 7 = some (.bipush (-2)) := by decide +kernel
theorem i177_9 : xIns xg 177 9 = some (.ireturn) := by decide +kernel
theorem m177 : (xMet xg 177).2.2 = (3, (some .int)) := by decide +kernel
theorem i177_10 : xIns xg 177 10 = some (.aload_n 0) := by decide +kernel
theorem i177_11 : xIns xg 177 11 = some (.getfield 13) := by decide +kernel
theorem f177_13 : xFld xg 177 13 = some (7, 1) := by decide +kernel
theorem i177_14 : xIns xg 177 14 = some (.iload_n 1) := by decide +kernel
theorem i177_15 : xIns xg 177 15 = some (.iaload) := by decide +kernel
theorem i177_16 : xIns xg 177 16 = some (.ifCond .ne 6) := by decide +kernel
theorem i177_19 : xIns xg 177 19 = some (.bipush (-3)) := by decide +kernel
theorem i177_21 : xIns xg 177 21 = some (.ireturn) := by decide +kernel
set_option maxHeartbeats 4000000 in
set_option maxRecDepth 100000 in
theorem r_feed {sc : xS} {d : Nat} (f : Nat → xE) (a1 : Int32) : xT xg sc (d + 12) 131 0 [(0, .ref 77), (1, .int (a1))] [] (hM f) (fun r => r.1 = some (.int (sp_feed a1)) ∧ r.2.2 = (0, 0)) := by
  refine wLin 1 i131_0 rfl rfl ?_
  refine wA 2 i131_1 rfl rfl rfl ?_
  refine wKl 3 0 i131_2 (by decide) rfl ?_
  refine wKd 6 255 i131_3 c131_181 rfl ?_
  refine jCall 9 [.long ((a1).toInt64), .long 0, .long 255] [] [(0, .long ((a1).toInt64)), (2, .long 0), (4, .long 255)] i131_6 rfl (xlk1 l131_177) (Or.inr (Or.inl rfl)) m142 rfl rfl (Nat.le_of_ble_eq_true rfl) (Nat.le_of_ble_eq_true rfl) (Nat.le_of_ble_eq_true rfl) rfl rfl rfl ?_
  refine wLln 1 i142_0 rfl rfl ?_
  refine wLln 2 i142_1 rfl rfl ?_
  refine wA 3 i142_2 rfl rfl rfl ?_
  by_cases c1 : (a1) < 0
  ·
    refine wZT 17 i142_3 rfl (decide_eq_true (wl_lt (l := 0) (by decide) c1)) ?_
    refine wK 18 0 i142_17 (by decide) rfl ?_
    refine jRi i142_18 m142 (by decide) ?_
    refine wZF 15 12 i131_9 rfl (by decide) rfl ?_
    refine wKb 14 (-2) i131_12 (by decide) rfl ?_
    refine wRi i131_14 m131 rfl ?_
    refine ⟨congrArg (fun z => some (Value.int z)) ?_, rfl⟩
    unfold sp_feed
    repeat' split
    all_goals first | rfl | (exfalso; simp only [Int32.lt_iff_toInt_lt, Int32.le_iff_toInt_le, ← Int32.toInt_inj] at * <;> (simp at * <;> omega))
  ·
    refine wZF 17 6 i142_3 rfl (decide_eq_false (wl_nlt (l := 0) (by decide) c1)) rfl ?_
    refine wLln 7 i142_6 rfl rfl ?_
    refine wLl 9 i142_7 rfl rfl ?_
    refine wA 10 i142_9 rfl rfl rfl ?_
    by_cases c2 : 255 < (a1)
    ·
      refine wZT 17 i142_10 rfl (decide_eq_true (wl_gt (l := 255) (by decide) c2)) ?_
      refine wK 18 0 i142_17 (by decide) rfl ?_
      refine jRi i142_18 m142 (by decide) ?_
      refine wZF 15 12 i131_9 rfl (by decide) rfl ?_
      refine wKb 14 (-2) i131_12 (by decide) rfl ?_
      refine wRi i131_14 m131 rfl ?_
      refine ⟨congrArg (fun z => some (Value.int z)) ?_, rfl⟩
      unfold sp_feed
      repeat' split
      all_goals first | rfl | (exfalso; simp only [Int32.lt_iff_toInt_lt, Int32.le_iff_toInt_le, ← Int32.toInt_inj] at * <;> (simp at * <;> omega))
    ·
      refine wZF 17 13 i142_10 rfl (decide_eq_false (wl_ngt (l := 255) (by decide) c2)) rfl ?_
      refine wK 14 1 i142_13 (by decide) rfl ?_
      refine wGo 18 i142_14 rfl ?_
      refine jRi i142_18 m142 (by decide) ?_
      refine wZT 15 i131_9 rfl (by decide) ?_
      refine wLan 16 i131_15 rfl rfl ?_
      refine wGet 19 (.int 0) i131_16 f131_183 rfl rfl rfl ?_
      refine wKb 21 120 i131_19 (by decide) rfl ?_
      refine wCT 27 i131_21 rfl (by decide) ?_
      refine wLan 28 i131_27 rfl rfl ?_
      refine wGet 31 (.ref 94) i131_28 f131_67 rfl rfl rfl ?_
      refine wLan 32 i131_31 rfl rfl ?_
      refine wGet 35 (.int 0) i131_32 f131_183 rfl rfl rfl ?_
      refine wLin 36 i131_35 rfl rfl ?_
      refine wIas 37 i131_36 rfl (by decide) rfl ?_
      refine wLan 38 i131_37 rfl rfl ?_
      refine wD 39 i131_38 rfl rfl rfl ?_
      refine wGet 42 (.int 0) i131_39 f131_183 rfl rfl rfl ?_
      refine wK 43 1 i131_42 (by decide) rfl ?_
      refine wA 44 i131_43 rfl rfl rfl ?_
      refine tTop (v := 1) (by decide) ?_
      refine wPut 47 i131_44 p131_183 rfl (by decide) rfl rfl rfl ?_
      refine wLan 48 i131_47 rfl rfl ?_
      refine wGet 51 (.int 1) i131_48 f131_183 rfl rfl rfl ?_
      refine wRi i131_51 m131 rfl ?_
      refine ⟨congrArg (fun z => some (Value.int z)) ?_, rfl⟩
      unfold sp_feed
      repeat' split
      all_goals first | rfl | (exfalso; simp only [Int32.lt_iff_toInt_lt, Int32.le_iff_toInt_le, ← Int32.toInt_inj] at * <;> (simp at * <;> omega))
set_option maxHeartbeats 4000000 in
set_option maxRecDepth 100000 in
theorem r_text {sc : xS} {d : Nat} (f : Nat → xE) (a1 : Int32) : xT xg sc (d + 12) 190 0 [(0, .ref 77), (1, .int (a1))] [] (hM f) (fun r => r.1 = some (.int (sp_text a1)) ∧ r.2.2 = (0, 0)) := by
  refine wLin 1 i190_0 rfl rfl ?_
  refine jCall 4 [.int (a1)] [] [(0, .int (a1))] i190_1 rfl (xlk1 l190_266) (Or.inr (Or.inl rfl)) m153 rfl rfl (Nat.le_of_ble_eq_true rfl) (Nat.le_of_ble_eq_true rfl) (Nat.le_of_ble_eq_true rfl) rfl rfl rfl ?_
  refine wLin 1 i153_0 rfl rfl ?_
  refine wA 2 i153_1 rfl rfl rfl ?_
  refine wKl 3 0 i153_2 (by decide) rfl ?_
  refine wKd 6 7 i153_3 c153_175 rfl ?_
  refine jCall 9 [.long ((a1).toInt64), .long 0, .long 7] [] [(0, .long ((a1).toInt64)), (2, .long 0), (4, .long 7)] i153_6 rfl (xlk1 l153_177) (Or.inr (Or.inl rfl)) m142 rfl rfl (Nat.le_of_ble_eq_true rfl) (Nat.le_of_ble_eq_true rfl) (Nat.le_of_ble_eq_true rfl) rfl rfl rfl ?_
  refine wLln 1 i142_0 rfl rfl ?_
  refine wLln 2 i142_1 rfl rfl ?_
  refine wA 3 i142_2 rfl rfl rfl ?_
  by_cases c1 : (a1) < 0
  ·
    refine wZT 17 i142_3 rfl (decide_eq_true (wl_lt (l := 0) (by decide) c1)) ?_
    refine wK 18 0 i142_17 (by decide) rfl ?_
    refine jRi i142_18 m142 (by decide) ?_
    refine jRi i153_9 m153 (by decide) ?_
    refine wZF 10 7 i190_4 rfl (by decide) rfl ?_
    refine wKb 9 (-2) i190_7 (by decide) rfl ?_
    refine wRi i190_9 m190 rfl ?_
    refine ⟨congrArg (fun z => some (Value.int z)) ?_, rfl⟩
    unfold sp_text
    repeat' split
    all_goals first | rfl | (exfalso; simp only [Int32.lt_iff_toInt_lt, Int32.le_iff_toInt_le, ← Int32.toInt_inj] at * <;> (simp at * <;> omega))
  ·
    refine wZF 17 6 i142_3 rfl (decide_eq_false (wl_nlt (l := 0) (by decide) c1)) rfl ?_
    refine wLln 7 i142_6 rfl rfl ?_
    refine wLl 9 i142_7 rfl rfl ?_
    refine wA 10 i142_9 rfl rfl rfl ?_
    by_cases c2 : 7 < (a1)
    ·
      refine wZT 17 i142_10 rfl (decide_eq_true (wl_gt (l := 7) (by decide) c2)) ?_
      refine wK 18 0 i142_17 (by decide) rfl ?_
      refine jRi i142_18 m142 (by decide) ?_
      refine jRi i153_9 m153 (by decide) ?_
      refine wZF 10 7 i190_4 rfl (by decide) rfl ?_
      refine wKb 9 (-2) i190_7 (by decide) rfl ?_
      refine wRi i190_9 m190 rfl ?_
      refine ⟨congrArg (fun z => some (Value.int z)) ?_, rfl⟩
      unfold sp_text
      repeat' split
      all_goals first | rfl | (exfalso; simp only [Int32.lt_iff_toInt_lt, Int32.le_iff_toInt_le, ← Int32.toInt_inj] at * <;> (simp at * <;> omega))
    ·
      refine wZF 17 13 i142_10 rfl (decide_eq_false (wl_ngt (l := 7) (by decide) c2)) rfl ?_
      refine wK 14 1 i142_13 (by decide) rfl ?_
      refine wGo 18 i142_14 rfl ?_
      refine jRi i142_18 m142 (by decide) ?_
      refine jRi i153_9 m153 (by decide) ?_
      refine wZT 10 i190_4 rfl (by decide) ?_
      refine wLan 11 i190_10 rfl rfl ?_
      refine wK 12 0 i190_11 (by decide) rfl ?_
      refine wPutS 15 i190_12 p190_186 rfl rfl rfl rfl rfl ?_
      refine wLan 16 i190_15 rfl rfl ?_
      refine wK 17 0 i190_16 (by decide) rfl ?_
      refine wPutS 20 i190_17 p190_218 rfl rfl rfl rfl rfl ?_
      refine wLan 21 i190_20 rfl rfl ?_
      refine wK 22 0 i190_21 (by decide) rfl ?_
      refine wPutS 25 i190_22 p190_248 rfl rfl rfl rfl rfl ?_
      refine wLan 26 i190_25 rfl rfl ?_
      refine jCall 29 [.ref 77] [] [(0, .ref 77)] i190_26 rfl (xlk0 l190_238) (Or.inl rfl) m167 rfl rfl (Nat.le_of_ble_eq_true rfl) (Nat.le_of_ble_eq_true rfl) (Nat.le_of_ble_eq_true rfl) rfl rfl rfl ?_
      refine wLan 1 i167_0 rfl rfl ?_
      refine wLan 2 i167_1 rfl rfl ?_
      refine wGet 5 (.int 0) i167_2 f167_186 rfl rfl rfl ?_
      refine jCall 8 [.ref 77, .int 0] [] [(0, .ref 77), (1, .int 0)] i167_5 rfl (xlk0 l167_189) (Or.inl rfl) m122 rfl rfl (Nat.le_of_ble_eq_true rfl) (Nat.le_of_ble_eq_true rfl) (Nat.le_of_ble_eq_true rfl) rfl rfl rfl ?_
      refine wLin 1 i122_0 rfl rfl ?_
      refine wLan 2 i122_1 rfl rfl ?_
      refine wGet 5 (.int 0) i122_2 f122_183 rfl rfl rfl ?_
      refine wCT 17 i122_5 rfl (by decide) ?_
      refine wK 18 (-1) i122_17 (by decide) rfl ?_
      refine jRi i122_18 m122 rfl ?_
      refine wKb 10 32 i167_8 (by decide) rfl ?_
      refine wCF 26 13 i167_10 rfl (by decide) rfl ?_
      refine wLan 14 i167_13 rfl rfl ?_
      refine wLan 15 i167_14 rfl rfl ?_
      refine wGet 18 (.int 0) i167_15 f167_186 rfl rfl rfl ?_
      refine jCall 21 [.ref 77, .int 0] [] [(0, .ref 77), (1, .int 0)] i167_18 rfl (xlk0 l167_189) (Or.inl rfl) m122 rfl rfl (Nat.le_of_ble_eq_true rfl) (Nat.le_of_ble_eq_true rfl) (Nat.le_of_ble_eq_true rfl) rfl rfl rfl ?_
      refine wLin 1 i122_0 rfl rfl ?_
      refine wLan 2 i122_1 rfl rfl ?_
      refine wGet 5 (.int 0) i122_2 f122_183 rfl rfl rfl ?_
      refine wCT 17 i122_5 rfl (by decide) ?_
      refine wK 18 (-1) i122_17 (by decide) rfl ?_
      refine jRi i122_18 m122 rfl ?_
      refine wKb 23 10 i167_21 (by decide) rfl ?_
      refine wCT 39 i167_23 rfl (by decide) ?_
      refine wLan 40 i167_39 rfl rfl ?_
      refine wLan 41 i167_40 rfl rfl ?_
      refine wGet 44 (.int 0) i167_41 f167_186 rfl rfl rfl ?_
      refine wPutS 47 i167_44 p167_193 rfl rfl rfl rfl rfl ?_
      refine wLan 48 i167_47 rfl rfl ?_
      refine wLan 49 i167_48 rfl rfl ?_
      refine wGet 52 (.int 0) i167_49 f167_186 rfl rfl rfl ?_
      refine jCall 55 [.ref 77, .int 0] [] [(0, .ref 77), (1, .int 0)] i167_52 rfl (xlk0 l167_189) (Or.inl rfl) m122 rfl rfl (Nat.le_of_ble_eq_true rfl) (Nat.le_of_ble_eq_true rfl) (Nat.le_of_ble_eq_true rfl) rfl rfl rfl ?_
      refine wLin 1 i122_0 rfl rfl ?_
      refine wLan 2 i122_1 rfl rfl ?_
      refine wGet 5 (.int 0) i122_2 f122_183 rfl rfl rfl ?_
      refine wCT 17 i122_5 rfl (by decide) ?_
      refine wK 18 (-1) i122_17 (by decide) rfl ?_
      refine jRi i122_18 m122 rfl ?_
      refine wSin 56 [(1, .int (-1)), (0, .ref 77)] i167_55 m167 (by decide) rfl rfl ?_
      refine wLan 57 i167_56 rfl rfl ?_
      refine wK 58 4 i167_57 (by decide) rfl ?_
      refine wPut 61 i167_58 p167_196 rfl (by decide) rfl rfl rfl ?_
      refine wLin 62 i167_61 rfl rfl ?_
      refine wZF 81 65 i167_62 rfl (by decide) rfl ?_
      refine wLan 66 i167_65 rfl rfl ?_
      refine wK 67 0 i167_66 (by decide) rfl ?_
      refine wPut 70 i167_67 p167_196 rfl (by decide) rfl rfl rfl ?_
      refine wLan 71 i167_70 rfl rfl ?_
      refine wLan 72 i167_71 rfl rfl ?_
      refine wGet 75 (.int 0) i167_72 f167_183 rfl rfl rfl ?_
      refine wPutS 78 i167_75 p167_193 rfl rfl rfl rfl rfl ?_
      refine wGo 286 i167_78 rfl ?_
      refine jR0 i167_286 m167 ?_
      refine wLan 30 i190_29 rfl rfl ?_
      refine jCall 33 [.ref 77] [] [(0, .ref 77)] i190_30 rfl (xlk0 l190_263) (Or.inl rfl) m182 rfl rfl (Nat.le_of_ble_eq_true rfl) (Nat.le_of_ble_eq_true rfl) (Nat.le_of_ble_eq_true rfl) rfl rfl rfl ?_
      refine wLan 1 i182_0 rfl rfl ?_
      refine wGet 4 (.int 0) i182_1 f182_218 rfl rfl rfl ?_
      refine wZF 24 7 i182_4 rfl (by decide) rfl ?_
      refine wLan 8 i182_7 rfl rfl ?_
      refine wGet 11 (.int 0) i182_8 f182_196 rfl rfl rfl ?_
      refine wK 12 1 i182_11 (by decide) rfl ?_
      refine wCT 24 i182_12 rfl (by decide) ?_
      refine wLan 25 i182_24 rfl rfl ?_
      refine jCall 28 [.ref 77] [] [(0, .ref 77)] i182_25 rfl (xlk0 l182_245) (Or.inl rfl) m130 rfl rfl (Nat.le_of_ble_eq_true rfl) (Nat.le_of_ble_eq_true rfl) (Nat.le_of_ble_eq_true rfl) rfl rfl rfl ?_
      refine wLan 1 i130_0 rfl rfl ?_
      refine wGet 4 (.int 0) i130_1 f130_218 rfl rfl rfl ?_
      refine wZF 20 7 i130_4 rfl (by decide) rfl ?_
      refine wLan 8 i130_7 rfl rfl ?_
      refine wK 9 1 i130_8 (by decide) rfl ?_
      refine wPut 12 i130_9 p130_218 rfl (by decide) rfl rfl rfl ?_
      refine wLan 13 i130_12 rfl rfl ?_
      refine wLan 14 i130_13 rfl rfl ?_
      refine wGet 17 (.int 0) i130_14 f130_193 rfl rfl rfl ?_
      refine wPutS 20 i130_17 p130_222 rfl rfl rfl rfl rfl ?_
      refine jR0 i130_20 m130 ?_
      refine jR0 i182_28 m182 ?_
      refine wLan 34 i190_33 rfl rfl ?_
      refine wGet 37 (.int 1) i190_34 f190_218 rfl rfl rfl ?_
      refine wZT 51 i190_37 rfl (by decide) ?_
      refine wLan 52 i190_51 rfl rfl ?_
      refine wK 53 0 i190_52 (by decide) rfl ?_
      refine wPutS 56 i190_53 p190_183 rfl rfl rfl rfl rfl ?_
      refine wLan 57 i190_56 rfl rfl ?_
      refine wGet 60 (.int 1) i190_57 f190_218 rfl rfl rfl ?_
      refine wZF 71 63 i190_60 rfl (by decide) rfl ?_
      refine wKb 65 (-100) i190_63 (by decide) rfl ?_
      refine wLan 66 i190_65 rfl rfl ?_
      refine wGet 69 (.int 0) i190_66 f190_222 rfl rfl rfl ?_
      refine wA 70 i190_69 rfl rfl rfl ?_
      refine tTop (v := (-100)) (by decide) ?_
      refine wRi i190_70 m190 rfl ?_
      refine ⟨congrArg (fun z => some (Value.int z)) ?_, rfl⟩
      unfold sp_text
      repeat' split
      all_goals first | rfl | (exfalso; simp only [Int32.lt_iff_toInt_lt, Int32.le_iff_toInt_le, ← Int32.toInt_inj] at * <;> (simp at * <;> omega))
set_option maxHeartbeats 4000000 in
set_option maxRecDepth 100000 in
theorem r_empty {sc : xS} {d : Nat} (f : Nat → xE) (a1 : Int32) : xT xg sc (d + 12) 128 0 [(0, .ref 77), (1, .int (a1))] [] (hM f) (fun r => r.1 = some (.int (sp_empty a1)) ∧ r.2.2 = (0, 0)) := by
  refine wLin 1 i128_0 rfl rfl ?_
  refine jCall 4 [.int (a1)] [] [(0, .int (a1))] i128_1 rfl (xlk1 l128_266) (Or.inr (Or.inl rfl)) m153 rfl rfl (Nat.le_of_ble_eq_true rfl) (Nat.le_of_ble_eq_true rfl) (Nat.le_of_ble_eq_true rfl) rfl rfl rfl ?_
  refine wLin 1 i153_0 rfl rfl ?_
  refine wA 2 i153_1 rfl rfl rfl ?_
  refine wKl 3 0 i153_2 (by decide) rfl ?_
  refine wKd 6 7 i153_3 c153_175 rfl ?_
  refine jCall 9 [.long ((a1).toInt64), .long 0, .long 7] [] [(0, .long ((a1).toInt64)), (2, .long 0), (4, .long 7)] i153_6 rfl (xlk1 l153_177) (Or.inr (Or.inl rfl)) m142 rfl rfl (Nat.le_of_ble_eq_true rfl) (Nat.le_of_ble_eq_true rfl) (Nat.le_of_ble_eq_true rfl) rfl rfl rfl ?_
  refine wLln 1 i142_0 rfl rfl ?_
  refine wLln 2 i142_1 rfl rfl ?_
  refine wA 3 i142_2 rfl rfl rfl ?_
  by_cases c1 : (a1) < 0
  ·
    refine wZT 17 i142_3 rfl (decide_eq_true (wl_lt (l := 0) (by decide) c1)) ?_
    refine wK 18 0 i142_17 (by decide) rfl ?_
    refine jRi i142_18 m142 (by decide) ?_
    refine jRi i153_9 m153 (by decide) ?_
    refine wZF 10 7 i128_4 rfl (by decide) rfl ?_
    refine wKb 9 (-2) i128_7 (by decide) rfl ?_
    refine wRi i128_9 m128 rfl ?_
    refine ⟨congrArg (fun z => some (Value.int z)) ?_, rfl⟩
    unfold sp_empty
    repeat' split
    all_goals first | rfl | (exfalso; simp only [Int32.lt_iff_toInt_lt, Int32.le_iff_toInt_le, ← Int32.toInt_inj] at * <;> (simp at * <;> omega))
  ·
    refine wZF 17 6 i142_3 rfl (decide_eq_false (wl_nlt (l := 0) (by decide) c1)) rfl ?_
    refine wLln 7 i142_6 rfl rfl ?_
    refine wLl 9 i142_7 rfl rfl ?_
    refine wA 10 i142_9 rfl rfl rfl ?_
    by_cases c2 : 7 < (a1)
    ·
      refine wZT 17 i142_10 rfl (decide_eq_true (wl_gt (l := 7) (by decide) c2)) ?_
      refine wK 18 0 i142_17 (by decide) rfl ?_
      refine jRi i142_18 m142 (by decide) ?_
      refine jRi i153_9 m153 (by decide) ?_
      refine wZF 10 7 i128_4 rfl (by decide) rfl ?_
      refine wKb 9 (-2) i128_7 (by decide) rfl ?_
      refine wRi i128_9 m128 rfl ?_
      refine ⟨congrArg (fun z => some (Value.int z)) ?_, rfl⟩
      unfold sp_empty
      repeat' split
      all_goals first | rfl | (exfalso; simp only [Int32.lt_iff_toInt_lt, Int32.le_iff_toInt_le, ← Int32.toInt_inj] at * <;> (simp at * <;> omega))
    ·
      refine wZF 17 13 i142_10 rfl (decide_eq_false (wl_ngt (l := 7) (by decide) c2)) rfl ?_
      refine wK 14 1 i142_13 (by decide) rfl ?_
      refine wGo 18 i142_14 rfl ?_
      refine jRi i142_18 m142 (by decide) ?_
      refine jRi i153_9 m153 (by decide) ?_
      refine wZT 10 i128_4 rfl (by decide) ?_
      refine wLan 11 i128_10 rfl rfl ?_
      refine wGet 14 (.ref 78) i128_11 f128_13 rfl rfl rfl ?_
      refine wLin 15 i128_14 rfl rfl ?_
      refine wIal 16 i128_15 rfl (x_ib (Int32.not_lt.mp c1) (Int32.not_lt.mp c2) (by decide) (by decide)) rfl ?_
      refine tTop (v := 0) rfl ?_
      refine wSin 17 [(2, .int 0), (0, .ref 77), (1, .int (a1))] i128_16 m128 (by decide) rfl rfl ?_
      refine wLan 18 i128_17 rfl rfl ?_
      refine wGet 21 (.ref 78) i128_18 f128_13 rfl rfl rfl ?_
      refine wLin 22 i128_21 rfl rfl ?_
      refine wK 23 0 i128_22 (by decide) rfl ?_
      refine wIasS 24 i128_23 rfl (x_ib (Int32.not_lt.mp c1) (Int32.not_lt.mp c2) (by decide) (by decide)) rfl rfl ?_
      refine wLan 25 i128_24 rfl rfl ?_
      refine wCallV0 28 [.ref 77] [] i128_25 rfl (xlk0 l128_269) (Or.inl rfl) m195 rfl rfl (Nat.le_of_ble_eq_true rfl) (Nat.le_of_ble_eq_true rfl) (Nat.le_of_ble_eq_true rfl) rfl rfl (m_untells f) ?_
      refine wLin 29 i128_28 rfl rfl ?_
      refine wRi i128_29 m128 rfl ?_
      refine ⟨congrArg (fun z => some (Value.int z)) ?_, rfl⟩
      unfold sp_empty
      repeat' split
      all_goals first | rfl | (exfalso; simp only [Int32.lt_iff_toInt_lt, Int32.le_iff_toInt_le, ← Int32.toInt_inj] at * <;> (simp at * <;> omega))
set_option maxHeartbeats 4000000 in
set_option maxRecDepth 100000 in
theorem r_part {sc : xS} {d : Nat} (f : Nat → xE) (a1 : Int32) (a2 : Int32) (a3 : Int32) : xT xg sc (d + 12) 173 0 [(0, .ref 77), (1, .int (a1)), (2, .int (a2)), (3, .int (a3))] [] (hM f) (fun r => r.1 = some (.int (sp_part a1 a2 a3)) ∧ r.2.2 = (0, 0)) := by
  refine wLin 1 i173_0 rfl rfl ?_
  refine jCall 4 [.int (a1)] [] [(0, .int (a1))] i173_1 rfl (xlk1 l173_266) (Or.inr (Or.inl rfl)) m153 rfl rfl (Nat.le_of_ble_eq_true rfl) (Nat.le_of_ble_eq_true rfl) (Nat.le_of_ble_eq_true rfl) rfl rfl rfl ?_
  refine wLin 1 i153_0 rfl rfl ?_
  refine wA 2 i153_1 rfl rfl rfl ?_
  refine wKl 3 0 i153_2 (by decide) rfl ?_
  refine wKd 6 7 i153_3 c153_175 rfl ?_
  refine jCall 9 [.long ((a1).toInt64), .long 0, .long 7] [] [(0, .long ((a1).toInt64)), (2, .long 0), (4, .long 7)] i153_6 rfl (xlk1 l153_177) (Or.inr (Or.inl rfl)) m142 rfl rfl (Nat.le_of_ble_eq_true rfl) (Nat.le_of_ble_eq_true rfl) (Nat.le_of_ble_eq_true rfl) rfl rfl rfl ?_
  refine wLln 1 i142_0 rfl rfl ?_
  refine wLln 2 i142_1 rfl rfl ?_
  refine wA 3 i142_2 rfl rfl rfl ?_
  by_cases c1 : (a1) < 0
  ·
    refine wZT 17 i142_3 rfl (decide_eq_true (wl_lt (l := 0) (by decide) c1)) ?_
    refine wK 18 0 i142_17 (by decide) rfl ?_
    refine jRi i142_18 m142 (by decide) ?_
    refine jRi i153_9 m153 (by decide) ?_
    refine wZT 19 i173_4 rfl (by decide) ?_
    refine wKb 21 (-2) i173_19 (by decide) rfl ?_
    refine wRi i173_21 m173 rfl ?_
    refine ⟨congrArg (fun z => some (Value.int z)) ?_, rfl⟩
    unfold sp_part
    repeat' split
    all_goals first | rfl | (exfalso; simp only [Int32.lt_iff_toInt_lt, Int32.le_iff_toInt_le, ← Int32.toInt_inj] at * <;> (simp at * <;> omega))
  ·
    refine wZF 17 6 i142_3 rfl (decide_eq_false (wl_nlt (l := 0) (by decide) c1)) rfl ?_
    refine wLln 7 i142_6 rfl rfl ?_
    refine wLl 9 i142_7 rfl rfl ?_
    refine wA 10 i142_9 rfl rfl rfl ?_
    by_cases c2 : 7 < (a1)
    ·
      refine wZT 17 i142_10 rfl (decide_eq_true (wl_gt (l := 7) (by decide) c2)) ?_
      refine wK 18 0 i142_17 (by decide) rfl ?_
      refine jRi i142_18 m142 (by decide) ?_
      refine jRi i153_9 m153 (by decide) ?_
      refine wZT 19 i173_4 rfl (by decide) ?_
      refine wKb 21 (-2) i173_19 (by decide) rfl ?_
      refine wRi i173_21 m173 rfl ?_
      refine ⟨congrArg (fun z => some (Value.int z)) ?_, rfl⟩
      unfold sp_part
      repeat' split
      all_goals first | rfl | (exfalso; simp only [Int32.lt_iff_toInt_lt, Int32.le_iff_toInt_le, ← Int32.toInt_inj] at * <;> (simp at * <;> omega))
    ·
      refine wZF 17 13 i142_10 rfl (decide_eq_false (wl_ngt (l := 7) (by decide) c2)) rfl ?_
      refine wK 14 1 i142_13 (by decide) rfl ?_
      refine wGo 18 i142_14 rfl ?_
      refine jRi i142_18 m142 (by decide) ?_
      refine jRi i153_9 m153 (by decide) ?_
      refine wZF 19 7 i173_4 rfl (by decide) rfl ?_
      refine wLin 8 i173_7 rfl rfl ?_
      refine wA 9 i173_8 rfl rfl rfl ?_
      refine wKl 10 0 i173_9 (by decide) rfl ?_
      refine wKd 13 5 i173_10 c173_274 rfl ?_
      refine jCall 16 [.long ((a3).toInt64), .long 0, .long 5] [] [(0, .long ((a3).toInt64)), (2, .long 0), (4, .long 5)] i173_13 rfl (xlk1 l173_177) (Or.inr (Or.inl rfl)) m142 rfl rfl (Nat.le_of_ble_eq_true rfl) (Nat.le_of_ble_eq_true rfl) (Nat.le_of_ble_eq_true rfl) rfl rfl rfl ?_
      refine wLln 1 i142_0 rfl rfl ?_
      refine wLln 2 i142_1 rfl rfl ?_
      refine wA 3 i142_2 rfl rfl rfl ?_
      by_cases c3 : (a3) < 0
      ·
        refine wZT 17 i142_3 rfl (decide_eq_true (wl_lt (l := 0) (by decide) c3)) ?_
        refine wK 18 0 i142_17 (by decide) rfl ?_
        refine jRi i142_18 m142 (by decide) ?_
        refine wZF 22 19 i173_16 rfl (by decide) rfl ?_
        refine wKb 21 (-2) i173_19 (by decide) rfl ?_
        refine wRi i173_21 m173 rfl ?_
        refine ⟨congrArg (fun z => some (Value.int z)) ?_, rfl⟩
        unfold sp_part
        repeat' split
        all_goals first | rfl | (exfalso; simp only [Int32.lt_iff_toInt_lt, Int32.le_iff_toInt_le, ← Int32.toInt_inj] at * <;> (simp at * <;> omega))
      ·
        refine wZF 17 6 i142_3 rfl (decide_eq_false (wl_nlt (l := 0) (by decide) c3)) rfl ?_
        refine wLln 7 i142_6 rfl rfl ?_
        refine wLl 9 i142_7 rfl rfl ?_
        refine wA 10 i142_9 rfl rfl rfl ?_
        by_cases c4 : 5 < (a3)
        ·
          refine wZT 17 i142_10 rfl (decide_eq_true (wl_gt (l := 5) (by decide) c4)) ?_
          refine wK 18 0 i142_17 (by decide) rfl ?_
          refine jRi i142_18 m142 (by decide) ?_
          refine wZF 22 19 i173_16 rfl (by decide) rfl ?_
          refine wKb 21 (-2) i173_19 (by decide) rfl ?_
          refine wRi i173_21 m173 rfl ?_
          refine ⟨congrArg (fun z => some (Value.int z)) ?_, rfl⟩
          unfold sp_part
          repeat' split
          all_goals first | rfl | (exfalso; simp only [Int32.lt_iff_toInt_lt, Int32.le_iff_toInt_le, ← Int32.toInt_inj] at * <;> (simp at * <;> omega))
        ·
          refine wZF 17 13 i142_10 rfl (decide_eq_false (wl_ngt (l := 5) (by decide) c4)) rfl ?_
          refine wK 14 1 i142_13 (by decide) rfl ?_
          refine wGo 18 i142_14 rfl ?_
          refine jRi i142_18 m142 (by decide) ?_
          refine wZT 22 i173_16 rfl (by decide) ?_
          refine wLan 23 i173_22 rfl rfl ?_
          refine wGet 26 (.ref 78) i173_23 f173_13 rfl rfl rfl ?_
          refine wLin 27 i173_26 rfl rfl ?_
          refine wIal 28 i173_27 rfl (x_ib (Int32.not_lt.mp c1) (Int32.not_lt.mp c2) (by decide) (by decide)) rfl ?_
          refine tTop (v := 0) rfl ?_
          refine wZF 34 31 i173_28 rfl (by decide) rfl ?_
          refine wKb 33 (-3) i173_31 (by decide) rfl ?_
          refine wRi i173_33 m173 rfl ?_
          refine ⟨congrArg (fun z => some (Value.int z)) ?_, rfl⟩
          unfold sp_part
          repeat' split
          all_goals first | rfl | (exfalso; simp only [Int32.lt_iff_toInt_lt, Int32.le_iff_toInt_le, ← Int32.toInt_inj] at * <;> (simp at * <;> omega))
set_option maxHeartbeats 4000000 in
set_option maxRecDepth 100000 in
theorem r_number {sc : xS} {d : Nat} (f : Nat → xE) (a1 : Int32) (a2 : Int32) : xT xg sc (d + 12) 169 0 [(0, .ref 77), (1, .int (a1)), (2, .int (a2))] [] (hM f) (fun r => r.1 = some (.long (sp_number a1 a2)) ∧ r.2.2 = (0, 0)) := by
  refine wLin 1 i169_0 rfl rfl ?_
  refine jCall 4 [.int (a1)] [] [(0, .int (a1))] i169_1 rfl (xlk1 l169_266) (Or.inr (Or.inl rfl)) m153 rfl rfl (Nat.le_of_ble_eq_true rfl) (Nat.le_of_ble_eq_true rfl) (Nat.le_of_ble_eq_true rfl) rfl rfl rfl ?_
  refine wLin 1 i153_0 rfl rfl ?_
  refine wA 2 i153_1 rfl rfl rfl ?_
  refine wKl 3 0 i153_2 (by decide) rfl ?_
  refine wKd 6 7 i153_3 c153_175 rfl ?_
  refine jCall 9 [.long ((a1).toInt64), .long 0, .long 7] [] [(0, .long ((a1).toInt64)), (2, .long 0), (4, .long 7)] i153_6 rfl (xlk1 l153_177) (Or.inr (Or.inl rfl)) m142 rfl rfl (Nat.le_of_ble_eq_true rfl) (Nat.le_of_ble_eq_true rfl) (Nat.le_of_ble_eq_true rfl) rfl rfl rfl ?_
  refine wLln 1 i142_0 rfl rfl ?_
  refine wLln 2 i142_1 rfl rfl ?_
  refine wA 3 i142_2 rfl rfl rfl ?_
  by_cases c1 : (a1) < 0
  ·
    refine wZT 17 i142_3 rfl (decide_eq_true (wl_lt (l := 0) (by decide) c1)) ?_
    refine wK 18 0 i142_17 (by decide) rfl ?_
    refine jRi i142_18 m142 (by decide) ?_
    refine jRi i153_9 m153 (by decide) ?_
    refine wZT 47 i169_4 rfl (by decide) ?_
    refine wKd 50 (-4611686018427387904) i169_47 c169_285 rfl ?_
    refine wRl i169_50 m169 ?_
    refine ⟨congrArg (fun z => some (Value.long z)) ?_, rfl⟩
    unfold sp_number
    repeat' split
    all_goals first | rfl | (exfalso; simp only [Int32.lt_iff_toInt_lt, Int32.le_iff_toInt_le, ← Int32.toInt_inj] at * <;> (simp at * <;> omega))
  ·
    refine wZF 17 6 i142_3 rfl (decide_eq_false (wl_nlt (l := 0) (by decide) c1)) rfl ?_
    refine wLln 7 i142_6 rfl rfl ?_
    refine wLl 9 i142_7 rfl rfl ?_
    refine wA 10 i142_9 rfl rfl rfl ?_
    by_cases c2 : 7 < (a1)
    ·
      refine wZT 17 i142_10 rfl (decide_eq_true (wl_gt (l := 7) (by decide) c2)) ?_
      refine wK 18 0 i142_17 (by decide) rfl ?_
      refine jRi i142_18 m142 (by decide) ?_
      refine jRi i153_9 m153 (by decide) ?_
      refine wZT 47 i169_4 rfl (by decide) ?_
      refine wKd 50 (-4611686018427387904) i169_47 c169_285 rfl ?_
      refine wRl i169_50 m169 ?_
      refine ⟨congrArg (fun z => some (Value.long z)) ?_, rfl⟩
      unfold sp_number
      repeat' split
      all_goals first | rfl | (exfalso; simp only [Int32.lt_iff_toInt_lt, Int32.le_iff_toInt_le, ← Int32.toInt_inj] at * <;> (simp at * <;> omega))
    ·
      refine wZF 17 13 i142_10 rfl (decide_eq_false (wl_ngt (l := 7) (by decide) c2)) rfl ?_
      refine wK 14 1 i142_13 (by decide) rfl ?_
      refine wGo 18 i142_14 rfl ?_
      refine jRi i142_18 m142 (by decide) ?_
      refine jRi i153_9 m153 (by decide) ?_
      refine wZF 47 7 i169_4 rfl (by decide) rfl ?_
      refine wLan 8 i169_7 rfl rfl ?_
      refine wLin 9 i169_8 rfl rfl ?_
      refine wLin 10 i169_9 rfl rfl ?_
      refine jCall 13 [.ref 77, .int (a1), .int (a2)] [] [(0, .ref 77), (1, .int (a1)), (2, .int (a2))] i169_10 rfl (xlk0 l169_276) (Or.inl rfl) m148 rfl rfl (Nat.le_of_ble_eq_true rfl) (Nat.le_of_ble_eq_true rfl) (Nat.le_of_ble_eq_true rfl) rfl rfl rfl ?_
      refine wLin 1 i148_0 rfl rfl ?_
      refine wA 2 i148_1 rfl rfl rfl ?_
      refine wKl 3 0 i148_2 (by decide) rfl ?_
      refine wLan 4 i148_3 rfl rfl ?_
      refine wGet 7 (.ref 78) i148_4 f148_13 rfl rfl rfl ?_
      refine wLin 8 i148_7 rfl rfl ?_
      refine wIal 9 i148_8 rfl (x_ib (Int32.not_lt.mp c1) (Int32.not_lt.mp c2) (by decide) (by decide)) rfl ?_
      refine tTop (v := 0) rfl ?_
      refine wK 10 1 i148_9 (by decide) rfl ?_
      refine wA 11 i148_10 rfl rfl rfl ?_
      refine tTop (v := (-1)) (by decide) ?_
      refine wA 12 i148_11 rfl rfl rfl ?_
      refine tTopL (v := (-1)) (by decide) ?_
      refine jCall 15 [.long ((a2).toInt64), .long 0, .long (-1)] [] [(0, .long ((a2).toInt64)), (2, .long 0), (4, .long (-1))] i148_12 rfl (xlk1 l148_177) (Or.inr (Or.inl rfl)) m142 rfl rfl (Nat.le_of_ble_eq_true rfl) (Nat.le_of_ble_eq_true rfl) (Nat.le_of_ble_eq_true rfl) rfl rfl rfl ?_
      refine wLln 1 i142_0 rfl rfl ?_
      refine wLln 2 i142_1 rfl rfl ?_
      refine wA 3 i142_2 rfl rfl rfl ?_
      by_cases c3 : (a2) < 0
      ·
        refine wZT 17 i142_3 rfl (decide_eq_true (wl_lt (l := 0) (by decide) c3)) ?_
        refine wK 18 0 i142_17 (by decide) rfl ?_
        refine jRi i142_18 m142 (by decide) ?_
        refine jRi i148_15 m148 (by decide) ?_
        refine wZT 47 i169_13 rfl (by decide) ?_
        refine wKd 50 (-4611686018427387904) i169_47 c169_285 rfl ?_
        refine wRl i169_50 m169 ?_
        refine ⟨congrArg (fun z => some (Value.long z)) ?_, rfl⟩
        unfold sp_number
        repeat' split
        all_goals first | rfl | (exfalso; simp only [Int32.lt_iff_toInt_lt, Int32.le_iff_toInt_le, ← Int32.toInt_inj] at * <;> (simp at * <;> omega))
      ·
        refine wZF 17 6 i142_3 rfl (decide_eq_false (wl_nlt (l := 0) (by decide) c3)) rfl ?_
        refine wLln 7 i142_6 rfl rfl ?_
        refine wLl 9 i142_7 rfl rfl ?_
        refine wA 10 i142_9 rfl rfl rfl ?_
        refine wZT 17 i142_10 rfl (decide_eq_true (wl_gt (l := (-1)) (by decide) (x_llh (Int32.not_lt.mp c3) (by decide)))) ?_
        refine wK 18 0 i142_17 (by decide) rfl ?_
        refine jRi i142_18 m142 (by decide) ?_
        refine jRi i148_15 m148 (by decide) ?_
        refine wZT 47 i169_13 rfl (by decide) ?_
        refine wKd 50 (-4611686018427387904) i169_47 c169_285 rfl ?_
        refine wRl i169_50 m169 ?_
        refine ⟨congrArg (fun z => some (Value.long z)) ?_, rfl⟩
        unfold sp_number
        repeat' split
        all_goals first | rfl | (exfalso; simp only [Int32.lt_iff_toInt_lt, Int32.le_iff_toInt_le, ← Int32.toInt_inj] at * <;> (simp at * <;> omega))
set_option maxHeartbeats 4000000 in
set_option maxRecDepth 100000 in
theorem r_entry {sc : xS} {d : Nat} (f : Nat → xE) (a1 : Int32) (a2 : Int32) (a3 : Int32) : xT xg sc (d + 12) 129 0 [(0, .ref 77), (1, .int (a1)), (2, .int (a2)), (3, .int (a3))] [] (hM f) (fun r => r.1 = some (.long (sp_entry a1 a2 a3)) ∧ r.2.2 = (0, 0)) := by
  refine wLin 1 i129_0 rfl rfl ?_
  refine jCall 4 [.int (a1)] [] [(0, .int (a1))] i129_1 rfl (xlk1 l129_266) (Or.inr (Or.inl rfl)) m153 rfl rfl (Nat.le_of_ble_eq_true rfl) (Nat.le_of_ble_eq_true rfl) (Nat.le_of_ble_eq_true rfl) rfl rfl rfl ?_
  refine wLin 1 i153_0 rfl rfl ?_
  refine wA 2 i153_1 rfl rfl rfl ?_
  refine wKl 3 0 i153_2 (by decide) rfl ?_
  refine wKd 6 7 i153_3 c153_175 rfl ?_
  refine jCall 9 [.long ((a1).toInt64), .long 0, .long 7] [] [(0, .long ((a1).toInt64)), (2, .long 0), (4, .long 7)] i153_6 rfl (xlk1 l153_177) (Or.inr (Or.inl rfl)) m142 rfl rfl (Nat.le_of_ble_eq_true rfl) (Nat.le_of_ble_eq_true rfl) (Nat.le_of_ble_eq_true rfl) rfl rfl rfl ?_
  refine wLln 1 i142_0 rfl rfl ?_
  refine wLln 2 i142_1 rfl rfl ?_
  refine wA 3 i142_2 rfl rfl rfl ?_
  by_cases c1 : (a1) < 0
  ·
    refine wZT 17 i142_3 rfl (decide_eq_true (wl_lt (l := 0) (by decide) c1)) ?_
    refine wK 18 0 i142_17 (by decide) rfl ?_
    refine jRi i142_18 m142 (by decide) ?_
    refine jRi i153_9 m153 (by decide) ?_
    refine wZT 73 i129_4 rfl (by decide) ?_
    refine wKd 76 (-4611686018427387904) i129_73 c129_285 rfl ?_
    refine wRl i129_76 m129 ?_
    refine ⟨congrArg (fun z => some (Value.long z)) ?_, rfl⟩
    unfold sp_entry
    repeat' split
    all_goals first | rfl | (exfalso; simp only [Int32.lt_iff_toInt_lt, Int32.le_iff_toInt_le, ← Int32.toInt_inj] at * <;> (simp at * <;> omega))
  ·
    refine wZF 17 6 i142_3 rfl (decide_eq_false (wl_nlt (l := 0) (by decide) c1)) rfl ?_
    refine wLln 7 i142_6 rfl rfl ?_
    refine wLl 9 i142_7 rfl rfl ?_
    refine wA 10 i142_9 rfl rfl rfl ?_
    by_cases c2 : 7 < (a1)
    ·
      refine wZT 17 i142_10 rfl (decide_eq_true (wl_gt (l := 7) (by decide) c2)) ?_
      refine wK 18 0 i142_17 (by decide) rfl ?_
      refine jRi i142_18 m142 (by decide) ?_
      refine jRi i153_9 m153 (by decide) ?_
      refine wZT 73 i129_4 rfl (by decide) ?_
      refine wKd 76 (-4611686018427387904) i129_73 c129_285 rfl ?_
      refine wRl i129_76 m129 ?_
      refine ⟨congrArg (fun z => some (Value.long z)) ?_, rfl⟩
      unfold sp_entry
      repeat' split
      all_goals first | rfl | (exfalso; simp only [Int32.lt_iff_toInt_lt, Int32.le_iff_toInt_le, ← Int32.toInt_inj] at * <;> (simp at * <;> omega))
    ·
      refine wZF 17 13 i142_10 rfl (decide_eq_false (wl_ngt (l := 7) (by decide) c2)) rfl ?_
      refine wK 14 1 i142_13 (by decide) rfl ?_
      refine wGo 18 i142_14 rfl ?_
      refine jRi i142_18 m142 (by decide) ?_
      refine jRi i153_9 m153 (by decide) ?_
      refine wZF 73 7 i129_4 rfl (by decide) rfl ?_
      refine wLan 8 i129_7 rfl rfl ?_
      refine wLin 9 i129_8 rfl rfl ?_
      refine wLin 10 i129_9 rfl rfl ?_
      refine jCall 13 [.ref 77, .int (a1), .int (a2)] [] [(0, .ref 77), (1, .int (a1)), (2, .int (a2))] i129_10 rfl (xlk0 l129_276) (Or.inl rfl) m148 rfl rfl (Nat.le_of_ble_eq_true rfl) (Nat.le_of_ble_eq_true rfl) (Nat.le_of_ble_eq_true rfl) rfl rfl rfl ?_
      refine wLin 1 i148_0 rfl rfl ?_
      refine wA 2 i148_1 rfl rfl rfl ?_
      refine wKl 3 0 i148_2 (by decide) rfl ?_
      refine wLan 4 i148_3 rfl rfl ?_
      refine wGet 7 (.ref 78) i148_4 f148_13 rfl rfl rfl ?_
      refine wLin 8 i148_7 rfl rfl ?_
      refine wIal 9 i148_8 rfl (x_ib (Int32.not_lt.mp c1) (Int32.not_lt.mp c2) (by decide) (by decide)) rfl ?_
      refine tTop (v := 0) rfl ?_
      refine wK 10 1 i148_9 (by decide) rfl ?_
      refine wA 11 i148_10 rfl rfl rfl ?_
      refine tTop (v := (-1)) (by decide) ?_
      refine wA 12 i148_11 rfl rfl rfl ?_
      refine tTopL (v := (-1)) (by decide) ?_
      refine jCall 15 [.long ((a2).toInt64), .long 0, .long (-1)] [] [(0, .long ((a2).toInt64)), (2, .long 0), (4, .long (-1))] i148_12 rfl (xlk1 l148_177) (Or.inr (Or.inl rfl)) m142 rfl rfl (Nat.le_of_ble_eq_true rfl) (Nat.le_of_ble_eq_true rfl) (Nat.le_of_ble_eq_true rfl) rfl rfl rfl ?_
      refine wLln 1 i142_0 rfl rfl ?_
      refine wLln 2 i142_1 rfl rfl ?_
      refine wA 3 i142_2 rfl rfl rfl ?_
      by_cases c3 : (a2) < 0
      ·
        refine wZT 17 i142_3 rfl (decide_eq_true (wl_lt (l := 0) (by decide) c3)) ?_
        refine wK 18 0 i142_17 (by decide) rfl ?_
        refine jRi i142_18 m142 (by decide) ?_
        refine jRi i148_15 m148 (by decide) ?_
        refine wZT 73 i129_13 rfl (by decide) ?_
        refine wKd 76 (-4611686018427387904) i129_73 c129_285 rfl ?_
        refine wRl i129_76 m129 ?_
        refine ⟨congrArg (fun z => some (Value.long z)) ?_, rfl⟩
        unfold sp_entry
        repeat' split
        all_goals first | rfl | (exfalso; simp only [Int32.lt_iff_toInt_lt, Int32.le_iff_toInt_le, ← Int32.toInt_inj] at * <;> (simp at * <;> omega))
      ·
        refine wZF 17 6 i142_3 rfl (decide_eq_false (wl_nlt (l := 0) (by decide) c3)) rfl ?_
        refine wLln 7 i142_6 rfl rfl ?_
        refine wLl 9 i142_7 rfl rfl ?_
        refine wA 10 i142_9 rfl rfl rfl ?_
        refine wZT 17 i142_10 rfl (decide_eq_true (wl_gt (l := (-1)) (by decide) (x_llh (Int32.not_lt.mp c3) (by decide)))) ?_
        refine wK 18 0 i142_17 (by decide) rfl ?_
        refine jRi i142_18 m142 (by decide) ?_
        refine jRi i148_15 m148 (by decide) ?_
        refine wZT 73 i129_13 rfl (by decide) ?_
        refine wKd 76 (-4611686018427387904) i129_73 c129_285 rfl ?_
        refine wRl i129_76 m129 ?_
        refine ⟨congrArg (fun z => some (Value.long z)) ?_, rfl⟩
        unfold sp_entry
        repeat' split
        all_goals first | rfl | (exfalso; simp only [Int32.lt_iff_toInt_lt, Int32.le_iff_toInt_le, ← Int32.toInt_inj] at * <;> (simp at * <;> omega))
set_option maxHeartbeats 4000000 in
set_option maxRecDepth 100000 in
theorem r_twist {sc : xS} {d : Nat} (f : Nat → xE) (a1 : Int32) (a2 : Int32) (a3 : Int32) : xT xg sc (d + 12) 194 0 [(0, .ref 77), (1, .int (a1)), (2, .int (a2)), (3, .int (a3))] [] (hM f) (fun r => r.1 = some (.int (sp_twist a1 a2 a3)) ∧ r.2.2 = (0, 0)) := by
  refine wLin 1 i194_0 rfl rfl ?_
  refine jCall 4 [.int (a1)] [] [(0, .int (a1))] i194_1 rfl (xlk1 l194_266) (Or.inr (Or.inl rfl)) m153 rfl rfl (Nat.le_of_ble_eq_true rfl) (Nat.le_of_ble_eq_true rfl) (Nat.le_of_ble_eq_true rfl) rfl rfl rfl ?_
  refine wLin 1 i153_0 rfl rfl ?_
  refine wA 2 i153_1 rfl rfl rfl ?_
  refine wKl 3 0 i153_2 (by decide) rfl ?_
  refine wKd 6 7 i153_3 c153_175 rfl ?_
  refine jCall 9 [.long ((a1).toInt64), .long 0, .long 7] [] [(0, .long ((a1).toInt64)), (2, .long 0), (4, .long 7)] i153_6 rfl (xlk1 l153_177) (Or.inr (Or.inl rfl)) m142 rfl rfl (Nat.le_of_ble_eq_true rfl) (Nat.le_of_ble_eq_true rfl) (Nat.le_of_ble_eq_true rfl) rfl rfl rfl ?_
  refine wLln 1 i142_0 rfl rfl ?_
  refine wLln 2 i142_1 rfl rfl ?_
  refine wA 3 i142_2 rfl rfl rfl ?_
  by_cases c1 : (a1) < 0
  ·
    refine wZT 17 i142_3 rfl (decide_eq_true (wl_lt (l := 0) (by decide) c1)) ?_
    refine wK 18 0 i142_17 (by decide) rfl ?_
    refine jRi i142_18 m142 (by decide) ?_
    refine jRi i153_9 m153 (by decide) ?_
    refine wZT 21 i194_4 rfl (by decide) ?_
    refine wKb 23 (-2) i194_21 (by decide) rfl ?_
    refine wRi i194_23 m194 rfl ?_
    refine ⟨congrArg (fun z => some (Value.int z)) ?_, rfl⟩
    unfold sp_twist
    repeat' split
    all_goals first | rfl | (exfalso; simp only [Int32.lt_iff_toInt_lt, Int32.le_iff_toInt_le, ← Int32.toInt_inj] at * <;> (simp at * <;> omega))
  ·
    refine wZF 17 6 i142_3 rfl (decide_eq_false (wl_nlt (l := 0) (by decide) c1)) rfl ?_
    refine wLln 7 i142_6 rfl rfl ?_
    refine wLl 9 i142_7 rfl rfl ?_
    refine wA 10 i142_9 rfl rfl rfl ?_
    by_cases c2 : 7 < (a1)
    ·
      refine wZT 17 i142_10 rfl (decide_eq_true (wl_gt (l := 7) (by decide) c2)) ?_
      refine wK 18 0 i142_17 (by decide) rfl ?_
      refine jRi i142_18 m142 (by decide) ?_
      refine jRi i153_9 m153 (by decide) ?_
      refine wZT 21 i194_4 rfl (by decide) ?_
      refine wKb 23 (-2) i194_21 (by decide) rfl ?_
      refine wRi i194_23 m194 rfl ?_
      refine ⟨congrArg (fun z => some (Value.int z)) ?_, rfl⟩
      unfold sp_twist
      repeat' split
      all_goals first | rfl | (exfalso; simp only [Int32.lt_iff_toInt_lt, Int32.le_iff_toInt_le, ← Int32.toInt_inj] at * <;> (simp at * <;> omega))
    ·
      refine wZF 17 13 i142_10 rfl (decide_eq_false (wl_ngt (l := 7) (by decide) c2)) rfl ?_
      refine wK 14 1 i142_13 (by decide) rfl ?_
      refine wGo 18 i142_14 rfl ?_
      refine jRi i142_18 m142 (by decide) ?_
      refine jRi i153_9 m153 (by decide) ?_
      refine wZF 21 7 i194_4 rfl (by decide) rfl ?_
      refine wLin 8 i194_7 rfl rfl ?_
      refine wA 9 i194_8 rfl rfl rfl ?_
      refine wKd 12 (-9999) i194_9 c194_287 rfl ?_
      refine wKd 15 9999 i194_12 c194_289 rfl ?_
      refine jCall 18 [.long ((a3).toInt64), .long (-9999), .long 9999] [] [(0, .long ((a3).toInt64)), (2, .long (-9999)), (4, .long 9999)] i194_15 rfl (xlk1 l194_177) (Or.inr (Or.inl rfl)) m142 rfl rfl (Nat.le_of_ble_eq_true rfl) (Nat.le_of_ble_eq_true rfl) (Nat.le_of_ble_eq_true rfl) rfl rfl rfl ?_
      refine wLln 1 i142_0 rfl rfl ?_
      refine wLln 2 i142_1 rfl rfl ?_
      refine wA 3 i142_2 rfl rfl rfl ?_
      by_cases c3 : (a3) < (-9999)
      ·
        refine wZT 17 i142_3 rfl (decide_eq_true (wl_lt (l := (-9999)) (by decide) c3)) ?_
        refine wK 18 0 i142_17 (by decide) rfl ?_
        refine jRi i142_18 m142 (by decide) ?_
        refine wZF 24 21 i194_18 rfl (by decide) rfl ?_
        refine wKb 23 (-2) i194_21 (by decide) rfl ?_
        refine wRi i194_23 m194 rfl ?_
        refine ⟨congrArg (fun z => some (Value.int z)) ?_, rfl⟩
        unfold sp_twist
        repeat' split
        all_goals first | rfl | (exfalso; simp only [Int32.lt_iff_toInt_lt, Int32.le_iff_toInt_le, ← Int32.toInt_inj] at * <;> (simp at * <;> omega))
      ·
        refine wZF 17 6 i142_3 rfl (decide_eq_false (wl_nlt (l := (-9999)) (by decide) c3)) rfl ?_
        refine wLln 7 i142_6 rfl rfl ?_
        refine wLl 9 i142_7 rfl rfl ?_
        refine wA 10 i142_9 rfl rfl rfl ?_
        by_cases c4 : 9999 < (a3)
        ·
          refine wZT 17 i142_10 rfl (decide_eq_true (wl_gt (l := 9999) (by decide) c4)) ?_
          refine wK 18 0 i142_17 (by decide) rfl ?_
          refine jRi i142_18 m142 (by decide) ?_
          refine wZF 24 21 i194_18 rfl (by decide) rfl ?_
          refine wKb 23 (-2) i194_21 (by decide) rfl ?_
          refine wRi i194_23 m194 rfl ?_
          refine ⟨congrArg (fun z => some (Value.int z)) ?_, rfl⟩
          unfold sp_twist
          repeat' split
          all_goals first | rfl | (exfalso; simp only [Int32.lt_iff_toInt_lt, Int32.le_iff_toInt_le, ← Int32.toInt_inj] at * <;> (simp at * <;> omega))
        ·
          refine wZF 17 13 i142_10 rfl (decide_eq_false (wl_ngt (l := 9999) (by decide) c4)) rfl ?_
          refine wK 14 1 i142_13 (by decide) rfl ?_
          refine wGo 18 i142_14 rfl ?_
          refine jRi i142_18 m142 (by decide) ?_
          refine wZT 24 i194_18 rfl (by decide) ?_
          refine wLan 25 i194_24 rfl rfl ?_
          refine wGet 28 (.ref 78) i194_25 f194_13 rfl rfl rfl ?_
          refine wLin 29 i194_28 rfl rfl ?_
          refine wIal 30 i194_29 rfl (x_ib (Int32.not_lt.mp c1) (Int32.not_lt.mp c2) (by decide) (by decide)) rfl ?_
          refine tTop (v := 0) rfl ?_
          refine wZF 36 33 i194_30 rfl (by decide) rfl ?_
          refine wKb 35 (-3) i194_33 (by decide) rfl ?_
          refine wRi i194_35 m194 rfl ?_
          refine ⟨congrArg (fun z => some (Value.int z)) ?_, rfl⟩
          unfold sp_twist
          repeat' split
          all_goals first | rfl | (exfalso; simp only [Int32.lt_iff_toInt_lt, Int32.le_iff_toInt_le, ← Int32.toInt_inj] at * <;> (simp at * <;> omega))
set_option maxHeartbeats 4000000 in
set_option maxRecDepth 100000 in
theorem r_taken {sc : xS} {d : Nat} (f : Nat → xE) (a1 : Int32) (a2 : Int32) (a3 : Int32) : xT xg sc (d + 12) 186 0 [(0, .ref 77), (1, .int (a1)), (2, .int (a2)), (3, .int (a3))] [] (hM f) (fun r => r.1 = some (.int (sp_taken a1 a2 a3)) ∧ r.2.2 = (0, 0)) := by
  refine wLin 1 i186_0 rfl rfl ?_
  refine jCall 4 [.int (a1)] [] [(0, .int (a1))] i186_1 rfl (xlk1 l186_266) (Or.inr (Or.inl rfl)) m153 rfl rfl (Nat.le_of_ble_eq_true rfl) (Nat.le_of_ble_eq_true rfl) (Nat.le_of_ble_eq_true rfl) rfl rfl rfl ?_
  refine wLin 1 i153_0 rfl rfl ?_
  refine wA 2 i153_1 rfl rfl rfl ?_
  refine wKl 3 0 i153_2 (by decide) rfl ?_
  refine wKd 6 7 i153_3 c153_175 rfl ?_
  refine jCall 9 [.long ((a1).toInt64), .long 0, .long 7] [] [(0, .long ((a1).toInt64)), (2, .long 0), (4, .long 7)] i153_6 rfl (xlk1 l153_177) (Or.inr (Or.inl rfl)) m142 rfl rfl (Nat.le_of_ble_eq_true rfl) (Nat.le_of_ble_eq_true rfl) (Nat.le_of_ble_eq_true rfl) rfl rfl rfl ?_
  refine wLln 1 i142_0 rfl rfl ?_
  refine wLln 2 i142_1 rfl rfl ?_
  refine wA 3 i142_2 rfl rfl rfl ?_
  by_cases c1 : (a1) < 0
  ·
    refine wZT 17 i142_3 rfl (decide_eq_true (wl_lt (l := 0) (by decide) c1)) ?_
    refine wK 18 0 i142_17 (by decide) rfl ?_
    refine jRi i142_18 m142 (by decide) ?_
    refine jRi i153_9 m153 (by decide) ?_
    refine wZT 19 i186_4 rfl (by decide) ?_
    refine wKb 21 (-2) i186_19 (by decide) rfl ?_
    refine wRi i186_21 m186 rfl ?_
    refine ⟨congrArg (fun z => some (Value.int z)) ?_, rfl⟩
    unfold sp_taken
    repeat' split
    all_goals first | rfl | (exfalso; simp only [Int32.lt_iff_toInt_lt, Int32.le_iff_toInt_le, ← Int32.toInt_inj] at * <;> (simp at * <;> omega))
  ·
    refine wZF 17 6 i142_3 rfl (decide_eq_false (wl_nlt (l := 0) (by decide) c1)) rfl ?_
    refine wLln 7 i142_6 rfl rfl ?_
    refine wLl 9 i142_7 rfl rfl ?_
    refine wA 10 i142_9 rfl rfl rfl ?_
    by_cases c2 : 7 < (a1)
    ·
      refine wZT 17 i142_10 rfl (decide_eq_true (wl_gt (l := 7) (by decide) c2)) ?_
      refine wK 18 0 i142_17 (by decide) rfl ?_
      refine jRi i142_18 m142 (by decide) ?_
      refine jRi i153_9 m153 (by decide) ?_
      refine wZT 19 i186_4 rfl (by decide) ?_
      refine wKb 21 (-2) i186_19 (by decide) rfl ?_
      refine wRi i186_21 m186 rfl ?_
      refine ⟨congrArg (fun z => some (Value.int z)) ?_, rfl⟩
      unfold sp_taken
      repeat' split
      all_goals first | rfl | (exfalso; simp only [Int32.lt_iff_toInt_lt, Int32.le_iff_toInt_le, ← Int32.toInt_inj] at * <;> (simp at * <;> omega))
    ·
      refine wZF 17 13 i142_10 rfl (decide_eq_false (wl_ngt (l := 7) (by decide) c2)) rfl ?_
      refine wK 14 1 i142_13 (by decide) rfl ?_
      refine wGo 18 i142_14 rfl ?_
      refine jRi i142_18 m142 (by decide) ?_
      refine jRi i153_9 m153 (by decide) ?_
      refine wZF 19 7 i186_4 rfl (by decide) rfl ?_
      refine wLin 8 i186_7 rfl rfl ?_
      refine wA 9 i186_8 rfl rfl rfl ?_
      refine wKl 10 0 i186_9 (by decide) rfl ?_
      refine wKd 13 2 i186_10 c186_293 rfl ?_
      refine jCall 16 [.long ((a3).toInt64), .long 0, .long 2] [] [(0, .long ((a3).toInt64)), (2, .long 0), (4, .long 2)] i186_13 rfl (xlk1 l186_177) (Or.inr (Or.inl rfl)) m142 rfl rfl (Nat.le_of_ble_eq_true rfl) (Nat.le_of_ble_eq_true rfl) (Nat.le_of_ble_eq_true rfl) rfl rfl rfl ?_
      refine wLln 1 i142_0 rfl rfl ?_
      refine wLln 2 i142_1 rfl rfl ?_
      refine wA 3 i142_2 rfl rfl rfl ?_
      by_cases c3 : (a3) < 0
      ·
        refine wZT 17 i142_3 rfl (decide_eq_true (wl_lt (l := 0) (by decide) c3)) ?_
        refine wK 18 0 i142_17 (by decide) rfl ?_
        refine jRi i142_18 m142 (by decide) ?_
        refine wZF 22 19 i186_16 rfl (by decide) rfl ?_
        refine wKb 21 (-2) i186_19 (by decide) rfl ?_
        refine wRi i186_21 m186 rfl ?_
        refine ⟨congrArg (fun z => some (Value.int z)) ?_, rfl⟩
        unfold sp_taken
        repeat' split
        all_goals first | rfl | (exfalso; simp only [Int32.lt_iff_toInt_lt, Int32.le_iff_toInt_le, ← Int32.toInt_inj] at * <;> (simp at * <;> omega))
      ·
        refine wZF 17 6 i142_3 rfl (decide_eq_false (wl_nlt (l := 0) (by decide) c3)) rfl ?_
        refine wLln 7 i142_6 rfl rfl ?_
        refine wLl 9 i142_7 rfl rfl ?_
        refine wA 10 i142_9 rfl rfl rfl ?_
        by_cases c4 : 2 < (a3)
        ·
          refine wZT 17 i142_10 rfl (decide_eq_true (wl_gt (l := 2) (by decide) c4)) ?_
          refine wK 18 0 i142_17 (by decide) rfl ?_
          refine jRi i142_18 m142 (by decide) ?_
          refine wZF 22 19 i186_16 rfl (by decide) rfl ?_
          refine wKb 21 (-2) i186_19 (by decide) rfl ?_
          refine wRi i186_21 m186 rfl ?_
          refine ⟨congrArg (fun z => some (Value.int z)) ?_, rfl⟩
          unfold sp_taken
          repeat' split
          all_goals first | rfl | (exfalso; simp only [Int32.lt_iff_toInt_lt, Int32.le_iff_toInt_le, ← Int32.toInt_inj] at * <;> (simp at * <;> omega))
        ·
          refine wZF 17 13 i142_10 rfl (decide_eq_false (wl_ngt (l := 2) (by decide) c4)) rfl ?_
          refine wK 14 1 i142_13 (by decide) rfl ?_
          refine wGo 18 i142_14 rfl ?_
          refine jRi i142_18 m142 (by decide) ?_
          refine wZT 22 i186_16 rfl (by decide) ?_
          refine wLan 23 i186_22 rfl rfl ?_
          refine wGet 26 (.ref 78) i186_23 f186_13 rfl rfl rfl ?_
          refine wLin 27 i186_26 rfl rfl ?_
          refine wIal 28 i186_27 rfl (x_ib (Int32.not_lt.mp c1) (Int32.not_lt.mp c2) (by decide) (by decide)) rfl ?_
          refine tTop (v := 0) rfl ?_
          refine wZF 34 31 i186_28 rfl (by decide) rfl ?_
          refine wKb 33 (-3) i186_31 (by decide) rfl ?_
          refine wRi i186_33 m186 rfl ?_
          refine ⟨congrArg (fun z => some (Value.int z)) ?_, rfl⟩
          unfold sp_taken
          repeat' split
          all_goals first | rfl | (exfalso; simp only [Int32.lt_iff_toInt_lt, Int32.le_iff_toInt_le, ← Int32.toInt_inj] at * <;> (simp at * <;> omega))
set_option maxHeartbeats 4000000 in
set_option maxRecDepth 100000 in
theorem r_print {sc : xS} {d : Nat} (f : Nat → xE) (a1 : Int32) (a2 : Int32) : xT xg sc (d + 12) 177 0 [(0, .ref 77), (1, .int (a1)), (2, .int (a2))] [] (hM f) (fun r => r.1 = some (.int (sp_print a1 a2)) ∧ r.2.2 = (0, 0)) := by
  refine wLin 1 i177_0 rfl rfl ?_
  refine jCall 4 [.int (a1)] [] [(0, .int (a1))] i177_1 rfl (xlk1 l177_266) (Or.inr (Or.inl rfl)) m153 rfl rfl (Nat.le_of_ble_eq_true rfl) (Nat.le_of_ble_eq_true rfl) (Nat.le_of_ble_eq_true rfl) rfl rfl rfl ?_
  refine wLin 1 i153_0 rfl rfl ?_
  refine wA 2 i153_1 rfl rfl rfl ?_
  refine wKl 3 0 i153_2 (by decide) rfl ?_
  refine wKd 6 7 i153_3 c153_175 rfl ?_
  refine jCall 9 [.long ((a1).toInt64), .long 0, .long 7] [] [(0, .long ((a1).toInt64)), (2, .long 0), (4, .long 7)] i153_6 rfl (xlk1 l153_177) (Or.inr (Or.inl rfl)) m142 rfl rfl (Nat.le_of_ble_eq_true rfl) (Nat.le_of_ble_eq_true rfl) (Nat.le_of_ble_eq_true rfl) rfl rfl rfl ?_
  refine wLln 1 i142_0 rfl rfl ?_
  refine wLln 2 i142_1 rfl rfl ?_
  refine wA 3 i142_2 rfl rfl rfl ?_
  by_cases c1 : (a1) < 0
  ·
    refine wZT 17 i142_3 rfl (decide_eq_true (wl_lt (l := 0) (by decide) c1)) ?_
    refine wK 18 0 i142_17 (by decide) rfl ?_
    refine jRi i142_18 m142 (by decide) ?_
    refine jRi i153_9 m153 (by decide) ?_
    refine wZF 10 7 i177_4 rfl (by decide) rfl ?_
    refine wKb 9 (-2) i177_7 (by decide) rfl ?_
    refine wRi i177_9 m177 rfl ?_
    refine ⟨congrArg (fun z => some (Value.int z)) ?_, rfl⟩
    unfold sp_print
    repeat' split
    all_goals first | rfl | (exfalso; simp only [Int32.lt_iff_toInt_lt, Int32.le_iff_toInt_le, ← Int32.toInt_inj] at * <;> (simp at * <;> omega))
  ·
    refine wZF 17 6 i142_3 rfl (decide_eq_false (wl_nlt (l := 0) (by decide) c1)) rfl ?_
    refine wLln 7 i142_6 rfl rfl ?_
    refine wLl 9 i142_7 rfl rfl ?_
    refine wA 10 i142_9 rfl rfl rfl ?_
    by_cases c2 : 7 < (a1)
    ·
      refine wZT 17 i142_10 rfl (decide_eq_true (wl_gt (l := 7) (by decide) c2)) ?_
      refine wK 18 0 i142_17 (by decide) rfl ?_
      refine jRi i142_18 m142 (by decide) ?_
      refine jRi i153_9 m153 (by decide) ?_
      refine wZF 10 7 i177_4 rfl (by decide) rfl ?_
      refine wKb 9 (-2) i177_7 (by decide) rfl ?_
      refine wRi i177_9 m177 rfl ?_
      refine ⟨congrArg (fun z => some (Value.int z)) ?_, rfl⟩
      unfold sp_print
      repeat' split
      all_goals first | rfl | (exfalso; simp only [Int32.lt_iff_toInt_lt, Int32.le_iff_toInt_le, ← Int32.toInt_inj] at * <;> (simp at * <;> omega))
    ·
      refine wZF 17 13 i142_10 rfl (decide_eq_false (wl_ngt (l := 7) (by decide) c2)) rfl ?_
      refine wK 14 1 i142_13 (by decide) rfl ?_
      refine wGo 18 i142_14 rfl ?_
      refine jRi i142_18 m142 (by decide) ?_
      refine jRi i153_9 m153 (by decide) ?_
      refine wZT 10 i177_4 rfl (by decide) ?_
      refine wLan 11 i177_10 rfl rfl ?_
      refine wGet 14 (.ref 78) i177_11 f177_13 rfl rfl rfl ?_
      refine wLin 15 i177_14 rfl rfl ?_
      refine wIal 16 i177_15 rfl (x_ib (Int32.not_lt.mp c1) (Int32.not_lt.mp c2) (by decide) (by decide)) rfl ?_
      refine tTop (v := 0) rfl ?_
      refine wZF 22 19 i177_16 rfl (by decide) rfl ?_
      refine wKb 21 (-3) i177_19 (by decide) rfl ?_
      refine wRi i177_21 m177 rfl ?_
      refine ⟨congrArg (fun z => some (Value.int z)) ?_, rfl⟩
      unfold sp_print
      repeat' split
      all_goals first | rfl | (exfalso; simp only [Int32.lt_iff_toInt_lt, Int32.le_iff_toInt_le, ← Int32.toInt_inj] at * <;> (simp at * <;> omega))
