theorem i87_0 : xIns xg 87 0 = some (.iload_n 1) := by decide +kernel
theorem i87_1 : xIns xg 87 1 = some (.invokestatic 215) := by decide +kernel
theorem l87_215 : xMth xg 87 215 = some (1, 97, 1, 0) := by decide +kernel
theorem i87_4 : xIns xg 87 4 = some (.ifCond .ne 6) := by decide +kernel
theorem i87_7 : xIns xg 87 7 = some (.bipush (-2)) := by decide +kernel
theorem i87_9 : xIns xg 87 9 = some (.ireturn) := by decide +kernel
theorem m87 : (xMet xg 87).2.2 = (7, (some .int)) := by decide +kernel
theorem i87_10 : xIns xg 87 10 = some (.aload_n 0) := by decide +kernel
theorem i87_11 : xIns xg 87 11 = some (.iload_n 2) := by decide +kernel
theorem i87_12 : xIns xg 87 12 = some (.iload_n 3) := by decide +kernel
theorem i87_13 : xIns xg 87 13 = some (.bipush 16) := by decide +kernel
theorem i87_15 : xIns xg 87 15 = some (.invokevirtual 196) := by decide +kernel
theorem l87_196 : xMth xg 87 196 = some (0, 109, 4, 6) := by decide +kernel
theorem i87_18 : xIns xg 87 18 = some (.istore 4) := by decide +kernel
theorem i87_20 : xIns xg 87 20 = some (.iload 4) := by decide +kernel
theorem i87_22 : xIns xg 87 22 = some (.ifCond .eq 6) := by decide +kernel
theorem i87_25 : xIns xg 87 25 = some (.iload 4) := by decide +kernel
theorem i87_27 : xIns xg 87 27 = some (.ireturn) := by decide +kernel
theorem i116_0 : xIns xg 116 0 = some (.iload_n 1) := by decide +kernel
theorem i116_1 : xIns xg 116 1 = some (.invokestatic 215) := by decide +kernel
theorem l116_215 : xMth xg 116 215 = some (1, 97, 1, 0) := by decide +kernel
theorem i116_4 : xIns xg 116 4 = some (.ifCond .eq 17) := by decide +kernel
theorem i116_21 : xIns xg 116 21 = some (.bipush (-2)) := by decide +kernel
theorem i116_23 : xIns xg 116 23 = some (.ireturn) := by decide +kernel
theorem m116 : (xMet xg 116).2.2 = (5, (some .int)) := by decide +kernel
theorem i116_7 : xIns xg 116 7 = some (.iload_n 2) := by decide +kernel
theorem i116_8 : xIns xg 116 8 = some (.invokestatic 86) := by decide +kernel
theorem l116_86 : xMth xg 116 86 = some (1, 98, 1, 0) := by decide +kernel
theorem i116_11 : xIns xg 116 11 = some (.ifCond .eq 10) := by decide +kernel
theorem i116_14 : xIns xg 116 14 = some (.iload_n 3) := by decide +kernel
theorem i116_15 : xIns xg 116 15 = some (.invokestatic 230) := by decide +kernel
theorem l116_230 : xMth xg 116 230 = some (1, 96, 1, 0) := by decide +kernel
theorem m96 : (xMet xg 96).2.2 = (1, (some .boolean)) := by decide +kernel
theorem i96_0 : xIns xg 96 0 = some (.iload_n 0) := by decide +kernel
theorem i96_1 : xIns xg 96 1 = some (.ifCond .eq 15) := by decide +kernel
theorem i96_16 : xIns xg 96 16 = some (.iconst 1) := by decide +kernel
theorem i96_17 : xIns xg 96 17 = some (.goto 4) := by decide +kernel
theorem i96_21 : xIns xg 96 21 = some (.ireturn) := by decide +kernel
theorem i116_18 : xIns xg 116 18 = some (.ifCond .ne 6) := by decide +kernel
theorem i116_24 : xIns xg 116 24 = some (.aload_n 0) := by decide +kernel
theorem i116_25 : xIns xg 116 25 = some (.iload_n 2) := by decide +kernel
theorem i116_26 : xIns xg 116 26 = some (.invokevirtual 108) := by decide +kernel
theorem l116_108 : xMth xg 116 108 = some (0, 95, 2, 6) := by decide +kernel
theorem i116_29 : xIns xg 116 29 = some (.ifCond .eq 6) := by decide +kernel
theorem i116_32 : xIns xg 116 32 = some (.bipush (-3)) := by decide +kernel
theorem i116_34 : xIns xg 116 34 = some (.ireturn) := by decide +kernel
theorem i96_4 : xIns xg 96 4 = some (.iload_n 0) := by decide +kernel
theorem i96_5 : xIns xg 96 5 = some (.iconst 4) := by decide +kernel
theorem i96_6 : xIns xg 96 6 = some (.if_icmp .lt 14) := by decide +kernel
theorem i96_20 : xIns xg 96 20 = some (.iconst 0) := by decide +kernel
theorem i96_9 : xIns xg 96 9 = some (.iload_n 0) := by decide +kernel
theorem i96_10 : xIns xg 96 10 = some (.iconst 4) := by decide +kernel
theorem i96_11 : xIns xg 96 11 = some (.irem) := by decide +kernel
theorem i96_12 : xIns xg 96 12 = some (.iconst 1) := by decide +kernel
theorem i96_13 : xIns xg 96 13 = some (.if_icmp .gt 7) := by decide +kernel
theorem i92_0 : xIns xg 92 0 = some (.aload_n 0) := by decide +kernel
theorem i92_1 : xIns xg 92 1 = some (.getfield 62) := by decide +kernel
theorem f92_62 : xFld xg 92 62 = some (6, 8) := by decide +kernel
theorem i92_4 : xIns xg 92 4 = some (.aload_n 0) := by decide +kernel
theorem i92_5 : xIns xg 92 5 = some (.getfield 28) := by decide +kernel
theorem f92_28 : xFld xg 92 28 = some (6, 2) := by decide +kernel
theorem i92_8 : xIns xg 92 8 = some (.invokevirtual 244) := by decide +kernel
theorem l92_244 : xMth xg 92 244 = some (0, 68, 2, 4) := by decide +kernel
theorem m68 : (xMet xg 68).2.2 = (3, none) := by decide +kernel
theorem i68_0 : xIns xg 68 0 = some (.iconst 0) := by decide +kernel
theorem i68_1 : xIns xg 68 1 = some (.istore_n 2) := by decide +kernel
theorem i68_2 : xIns xg 68 2 = some (.iload_n 2) := by decide +kernel
theorem i68_3 : xIns xg 68 3 = some (.aload_n 0) := by decide +kernel
theorem i68_4 : xIns xg 68 4 = some (.getfield 9) := by decide +kernel
theorem f68_9 : xFld xg 68 9 = some (4, 0) := by decide +kernel
theorem i68_7 : xIns xg 68 7 = some (.arraylength) := by decide +kernel
theorem i68_8 : xIns xg 68 8 = some (.if_icmp .ge 25) := by decide +kernel
theorem i68_11 : xIns xg 68 11 = some (.iload_n 2) := by decide +kernel
theorem i68_12 : xIns xg 68 12 = some (.aload_n 1) := by decide +kernel
theorem i68_13 : xIns xg 68 13 = some (.getfield 9) := by decide +kernel
theorem i68_16 : xIns xg 68 16 = some (.arraylength) := by decide +kernel
theorem i68_17 : xIns xg 68 17 = some (.if_icmp .ge 16) := by decide +kernel
theorem i68_20 : xIns xg 68 20 = some (.aload_n 0) := by decide +kernel
theorem i68_21 : xIns xg 68 21 = some (.aload_n 1) := by decide +kernel
theorem i68_22 : xIns xg 68 22 = some (.iload_n 2) := by decide +kernel
theorem i68_23 : xIns xg 68 23 = some (.iload_n 2) := by decide +kernel
theorem i68_24 : xIns xg 68 24 = some (.invokevirtual 47) := by decide +kernel
theorem l68_47 : xMth xg 68 47 = some (0, 70, 4, 4) := by decide +kernel
theorem m70 : (xMet xg 70).2.2 = (4, none) := by decide +kernel
theorem i70_0 : xIns xg 70 0 = some (.aload_n 0) := by decide +kernel
theorem i70_1 : xIns xg 70 1 = some (.getfield 9) := by decide +kernel
theorem f70_9 : xFld xg 70 9 = some (4, 0) := by decide +kernel
theorem i70_4 : xIns xg 70 4 = some (.iload_n 3) := by decide +kernel
theorem i70_5 : xIns xg 70 5 = some (.aload_n 1) := by decide +kernel
theorem i70_6 : xIns xg 70 6 = some (.getfield 9) := by decide +kernel
theorem i70_9 : xIns xg 70 9 = some (.iload_n 2) := by decide +kernel
theorem i70_10 : xIns xg 70 10 = some (.iaload) := by decide +kernel
theorem i70_11 : xIns xg 70 11 = some (.iastore) := by decide +kernel
theorem i70_12 : xIns xg 70 12 = some (.aload_n 0) := by decide +kernel
theorem i70_13 : xIns xg 70 13 = some (.aload_n 1) := by decide +kernel
theorem i70_14 : xIns xg 70 14 = some (.iload_n 2) := by decide +kernel
theorem i70_15 : xIns xg 70 15 = some (.bipush 24) := by decide +kernel
theorem i70_17 : xIns xg 70 17 = some (.imul) := by decide +kernel
theorem i70_18 : xIns xg 70 18 = some (.iload_n 3) := by decide +kernel
theorem i70_19 : xIns xg 70 19 = some (.bipush 24) := by decide +kernel
theorem i70_21 : xIns xg 70 21 = some (.imul) := by decide +kernel
theorem i70_22 : xIns xg 70 22 = some (.aload_n 0) := by decide +kernel
theorem i70_23 : xIns xg 70 23 = some (.getfield 9) := by decide +kernel
theorem i70_26 : xIns xg 70 26 = some (.iload_n 3) := by decide +kernel
theorem i70_27 : xIns xg 70 27 = some (.iaload) := by decide +kernel
theorem i70_28 : xIns xg 70 28 = some (.invokevirtual 43) := by decide +kernel
theorem l70_43 : xMth xg 70 43 = some (0, 69, 5, 4) := by decide +kernel
theorem m69 : (xMet xg 69).2.2 = (5, none) := by decide +kernel
theorem i69_0 : xIns xg 69 0 = some (.aload_n 1) := by decide +kernel
theorem i69_1 : xIns xg 69 1 = some (.getfield 15) := by decide +kernel
theorem f69_15 : xFld xg 69 15 = some (4, 1) := by decide +kernel
theorem i69_4 : xIns xg 69 4 = some (.iload_n 2) := by decide +kernel
theorem i69_5 : xIns xg 69 5 = some (.aload_n 0) := by decide +kernel
theorem i69_6 : xIns xg 69 6 = some (.getfield 15) := by decide +kernel
theorem i69_9 : xIns xg 69 9 = some (.iload_n 3) := by decide +kernel
theorem i69_10 : xIns xg 69 10 = some (.iload 4) := by decide +kernel
theorem i69_12 : xIns xg 69 12 = some (.invokestatic 51) := by decide +kernel
theorem l69_51 : xMth xg 69 51 = some (7, 0, 0, 0) := by decide +kernel
theorem i69_15 : xIns xg 69 15 = some (.aload_n 1) := by decide +kernel
theorem i69_16 : xIns xg 69 16 = some (.getfield 18) := by decide +kernel
theorem f69_18 : xFld xg 69 18 = some (4, 2) := by decide +kernel
theorem i69_19 : xIns xg 69 19 = some (.iload_n 2) := by decide +kernel
theorem i69_20 : xIns xg 69 20 = some (.aload_n 0) := by decide +kernel
theorem i69_21 : xIns xg 69 21 = some (.getfield 18) := by decide +kernel
theorem i69_24 : xIns xg 69 24 = some (.iload_n 3) := by decide +kernel
theorem i69_25 : xIns xg 69 25 = some (.iload 4) := by decide +kernel
theorem i69_27 : xIns xg 69 27 = some (.invokestatic 51) := by decide +kernel
theorem i69_30 : xIns xg 69 30 = some (.aload_n 1) := by decide +kernel
theorem i69_31 : xIns xg 69 31 = some (.getfield 21) := by decide +kernel
theorem f69_21 : xFld xg 69 21 = some (4, 3) := by decide +kernel
theorem i69_34 : xIns xg 69 34 = some (.iload_n 2) := by decide +kernel
theorem i69_35 : xIns xg 69 35 = some (.aload_n 0) := by decide +kernel
theorem i69_36 : xIns xg 69 36 = some (.getfield 21) := by decide +kernel
theorem i69_39 : xIns xg 69 39 = some (.iload_n 3) := by decide +kernel
theorem i69_40 : xIns xg 69 40 = some (.iload 4) := by decide +kernel
theorem i69_42 : xIns xg 69 42 = some (.invokestatic 51) := by decide +kernel
theorem i69_45 : xIns xg 69 45 = some (.aload_n 1) := by decide +kernel
theorem i69_46 : xIns xg 69 46 = some (.getfield 24) := by decide +kernel
theorem f69_24 : xFld xg 69 24 = some (4, 4) := by decide +kernel
theorem i69_49 : xIns xg 69 49 = some (.iload_n 2) := by decide +kernel
theorem i69_50 : xIns xg 69 50 = some (.aload_n 0) := by decide +kernel
theorem i69_51 : xIns xg 69 51 = some (.getfield 24) := by decide +kernel
theorem i69_54 : xIns xg 69 54 = some (.iload_n 3) := by decide +kernel
theorem i69_55 : xIns xg 69 55 = some (.iload 4) := by decide +kernel
theorem i69_57 : xIns xg 69 57 = some (.invokestatic 51) := by decide +kernel
theorem i69_60 : xIns xg 69 60 = some (.aload_n 1) := by decide +kernel
theorem i69_61 : xIns xg 69 61 = some (.getfield 27) := by decide +kernel
theorem f69_27 : xFld xg 69 27 = some (4, 5) := by decide +kernel
theorem i69_64 : xIns xg 69 64 = some (.iload_n 2) := by decide +kernel
theorem i69_65 : xIns xg 69 65 = some (.aload_n 0) := by decide +kernel
theorem i69_66 : xIns xg 69 66 = some (.getfield 27) := by decide +kernel
theorem i69_69 : xIns xg 69 69 = some (.iload_n 3) := by decide +kernel
theorem i69_70 : xIns xg 69 70 = some (.iload 4) := by decide +kernel
theorem i69_72 : xIns xg 69 72 = some (.invokestatic 51) := by decide +kernel
theorem i69_75 : xIns xg 69 75 = some (.aload_n 1) := by decide +kernel
theorem i69_76 : xIns xg 69 76 = some (.getfield 30) := by decide +kernel
theorem f69_30 : xFld xg 69 30 = some (4, 6) := by decide +kernel
theorem i69_79 : xIns xg 69 79 = some (.iload_n 2) := by decide +kernel
theorem i69_80 : xIns xg 69 80 = some (.aload_n 0) := by decide +kernel
theorem i69_81 : xIns xg 69 81 = some (.getfield 30) := by decide +kernel
theorem i69_84 : xIns xg 69 84 = some (.iload_n 3) := by decide +kernel
theorem i69_85 : xIns xg 69 85 = some (.iload 4) := by decide +kernel
theorem i69_87 : xIns xg 69 87 = some (.invokestatic 51) := by decide +kernel
theorem i69_90 : xIns xg 69 90 = some (.aload_n 1) := by decide +kernel
theorem i69_91 : xIns xg 69 91 = some (.getfield 33) := by decide +kernel
theorem f69_33 : xFld xg 69 33 = some (4, 7) := by decide +kernel
theorem i69_94 : xIns xg 69 94 = some (.iload_n 2) := by decide +kernel
theorem i69_95 : xIns xg 69 95 = some (.bipush 8) := by decide +kernel
theorem i69_97 : xIns xg 69 97 = some (.imul) := by decide +kernel
theorem i69_98 : xIns xg 69 98 = some (.aload_n 0) := by decide +kernel
theorem i69_99 : xIns xg 69 99 = some (.getfield 33) := by decide +kernel
theorem i69_102 : xIns xg 69 102 = some (.iload_n 3) := by decide +kernel
theorem i69_103 : xIns xg 69 103 = some (.bipush 8) := by decide +kernel
theorem i69_105 : xIns xg 69 105 = some (.imul) := by decide +kernel
theorem i69_106 : xIns xg 69 106 = some (.iload 4) := by decide +kernel
theorem i69_108 : xIns xg 69 108 = some (.bipush 8) := by decide +kernel
theorem i69_110 : xIns xg 69 110 = some (.imul) := by decide +kernel
theorem i69_111 : xIns xg 69 111 = some (.invokestatic 51) := by decide +kernel
theorem i69_114 : xIns xg 69 114 = some (.return_) := by decide +kernel
theorem i70_31 : xIns xg 70 31 = some (.return_) := by decide +kernel
theorem i68_27 : xIns xg 68 27 = some (.iinc 2 1) := by decide +kernel
theorem i68_30 : xIns xg 68 30 = some (.goto (-28)) := by decide +kernel
theorem i68_33 : xIns xg 68 33 = some (.return_) := by decide +kernel
theorem i92_11 : xIns xg 92 11 = some (.aload_n 0) := by decide +kernel
theorem i92_12 : xIns xg 92 12 = some (.getfield 65) := by decide +kernel
theorem f92_65 : xFld xg 92 65 = some (6, 9) := by decide +kernel
theorem i92_15 : xIns xg 92 15 = some (.aload_n 0) := by decide +kernel
theorem i92_16 : xIns xg 92 16 = some (.getfield 35) := by decide +kernel
theorem f92_35 : xFld xg 92 35 = some (6, 3) := by decide +kernel
theorem i92_19 : xIns xg 92 19 = some (.invokevirtual 183) := by decide +kernel
theorem l92_183 : xMth xg 92 183 = some (0, 75, 2, 5) := by decide +kernel
theorem m75 : (xMet xg 75).2.2 = (3, none) := by decide +kernel
theorem i75_0 : xIns xg 75 0 = some (.aload_n 0) := by decide +kernel
theorem i75_1 : xIns xg 75 1 = some (.invokevirtual 56) := by decide +kernel
theorem l75_56 : xMth xg 75 56 = some (0, 77, 1, 5) := by decide +kernel
theorem i75_4 : xIns xg 75 4 = some (.iconst 0) := by decide +kernel
theorem i75_5 : xIns xg 75 5 = some (.istore_n 2) := by decide +kernel
theorem i75_6 : xIns xg 75 6 = some (.iload_n 2) := by decide +kernel
theorem i75_7 : xIns xg 75 7 = some (.aload_n 1) := by decide +kernel
theorem i75_8 : xIns xg 75 8 = some (.getfield 9) := by decide +kernel
theorem f75_9 : xFld xg 75 9 = some (5, 11) := by decide +kernel
theorem i75_11 : xIns xg 75 11 = some (.if_icmp .ge 20) := by decide +kernel
theorem i75_31 : xIns xg 75 31 = some (.return_) := by decide +kernel
theorem i92_22 : xIns xg 92 22 = some (.aload_n 0) := by decide +kernel
theorem i92_23 : xIns xg 92 23 = some (.aload_n 0) := by decide +kernel
theorem i92_24 : xIns xg 92 24 = some (.getfield 76) := by decide +kernel
theorem f92_76 : xFld xg 92 76 = some (6, 12) := by decide +kernel
theorem i92_27 : xIns xg 92 27 = some (.putfield 68) := by decide +kernel
theorem p92_68 : xPut xg 92 68 = some (6, 10, .int) := by decide +kernel
theorem i92_30 : xIns xg 92 30 = some (.aload_n 0) := by decide +kernel
theorem i92_31 : xIns xg 92 31 = some (.iconst 1) := by decide +kernel
theorem i92_32 : xIns xg 92 32 = some (.putfield 72) := by decide +kernel
theorem p92_72 : xPut xg 92 72 = some (6, 11, .boolean) := by decide +kernel
theorem i92_35 : xIns xg 92 35 = some (.aload_n 0) := by decide +kernel
theorem i92_36 : xIns xg 92 36 = some (.getfield 28) := by decide +kernel
theorem i92_39 : xIns xg 92 39 = some (.invokevirtual 247) := by decide +kernel
theorem l92_247 : xMth xg 92 247 = some (0, 64, 1, 4) := by decide +kernel
theorem m64 : (xMet xg 64).2.2 = (3, (some .int)) := by decide +kernel
theorem i64_0 : xIns xg 64 0 = some (.iconst 0) := by decide +kernel
theorem i64_1 : xIns xg 64 1 = some (.istore_n 1) := by decide +kernel
theorem i64_2 : xIns xg 64 2 = some (.iconst 0) := by decide +kernel
theorem i64_3 : xIns xg 64 3 = some (.istore_n 2) := by decide +kernel
theorem i64_4 : xIns xg 64 4 = some (.iload_n 2) := by decide +kernel
theorem i64_5 : xIns xg 64 5 = some (.aload_n 0) := by decide +kernel
theorem i64_6 : xIns xg 64 6 = some (.getfield 9) := by decide +kernel
theorem f64_9 : xFld xg 64 9 = some (4, 0) := by decide +kernel
theorem i64_9 : xIns xg 64 9 = some (.arraylength) := by decide +kernel
theorem i64_10 : xIns xg 64 10 = some (.if_icmp .ge 21) := by decide +kernel
theorem i64_13 : xIns xg 64 13 = some (.aload_n 0) := by decide +kernel
theorem i64_14 : xIns xg 64 14 = some (.getfield 9) := by decide +kernel
theorem i64_17 : xIns xg 64 17 = some (.iload_n 2) := by decide +kernel
theorem i64_18 : xIns xg 64 18 = some (.iaload) := by decide +kernel
theorem i64_19 : xIns xg 64 19 = some (.ifCond .le 6) := by decide +kernel
theorem i64_25 : xIns xg 64 25 = some (.iinc 2 1) := by decide +kernel
theorem i64_28 : xIns xg 64 28 = some (.goto (-24)) := by decide +kernel
theorem i64_31 : xIns xg 64 31 = some (.iload_n 1) := by decide +kernel
theorem i64_32 : xIns xg 64 32 = some (.ireturn) := by decide +kernel
theorem i92_42 : xIns xg 92 42 = some (.ireturn) := by decide +kernel
theorem m92 : (xMet xg 92).2.2 = (1, (some .int)) := by decide +kernel
theorem i79_0 : xIns xg 79 0 = some (.aload_n 0) := by decide +kernel
theorem i79_1 : xIns xg 79 1 = some (.getfield 72) := by decide +kernel
theorem f79_72 : xFld xg 79 72 = some (6, 11) := by decide +kernel
theorem i79_4 : xIns xg 79 4 = some (.ifCond .ne 6) := by decide +kernel
theorem i79_7 : xIns xg 79 7 = some (.bipush (-3)) := by decide +kernel
theorem i79_9 : xIns xg 79 9 = some (.ireturn) := by decide +kernel
theorem m79 : (xMet xg 79).2.2 = (1, (some .int)) := by decide +kernel
theorem i81_0 : xIns xg 81 0 = some (.iload_n 1) := by decide +kernel
theorem i81_1 : xIns xg 81 1 = some (.tableswitch 93 0 6 #[43, 51, 59, 67, 75, 80, 88]) := by decide +kernel
theorem i81_44 : xIns xg 81 44 = some (.aload_n 0) := by decide +kernel
theorem i81_45 : xIns xg 81 45 = some (.getfield 28) := by decide +kernel
theorem f81_28 : xFld xg 81 28 = some (6, 2) := by decide +kernel
theorem i81_48 : xIns xg 81 48 = some (.invokevirtual 247) := by decide +kernel
theorem l81_247 : xMth xg 81 247 = some (0, 64, 1, 4) := by decide +kernel
theorem i81_51 : xIns xg 81 51 = some (.ireturn) := by decide +kernel
theorem m81 : (xMet xg 81).2.2 = (2, (some .int)) := by decide +kernel
theorem i81_52 : xIns xg 81 52 = some (.aload_n 0) := by decide +kernel
theorem i81_53 : xIns xg 81 53 = some (.getfield 28) := by decide +kernel
theorem i81_56 : xIns xg 81 56 = some (.invokevirtual 250) := by decide +kernel
theorem l81_250 : xMth xg 81 250 = some (0, 61, 1, 4) := by decide +kernel
theorem m61 : (xMet xg 61).2.2 = (3, (some .int)) := by decide +kernel
theorem i61_0 : xIns xg 61 0 = some (.iconst 0) := by decide +kernel
theorem i61_1 : xIns xg 61 1 = some (.istore_n 1) := by decide +kernel
theorem i61_2 : xIns xg 61 2 = some (.iconst 0) := by decide +kernel
theorem i61_3 : xIns xg 61 3 = some (.istore_n 2) := by decide +kernel
theorem i61_4 : xIns xg 61 4 = some (.iload_n 2) := by decide +kernel
theorem i61_5 : xIns xg 61 5 = some (.aload_n 0) := by decide +kernel
theorem i61_6 : xIns xg 61 6 = some (.getfield 9) := by decide +kernel
theorem f61_9 : xFld xg 61 9 = some (4, 0) := by decide +kernel
theorem i61_9 : xIns xg 61 9 = some (.arraylength) := by decide +kernel
theorem i61_10 : xIns xg 61 10 = some (.if_icmp .ge 18) := by decide +kernel
theorem i61_13 : xIns xg 61 13 = some (.iload_n 1) := by decide +kernel
theorem i61_14 : xIns xg 61 14 = some (.aload_n 0) := by decide +kernel
theorem i61_15 : xIns xg 61 15 = some (.getfield 9) := by decide +kernel
theorem i61_18 : xIns xg 61 18 = some (.iload_n 2) := by decide +kernel
theorem i61_19 : xIns xg 61 19 = some (.iaload) := by decide +kernel
theorem i61_20 : xIns xg 61 20 = some (.iadd) := by decide +kernel
theorem i61_21 : xIns xg 61 21 = some (.istore_n 1) := by decide +kernel
theorem i61_22 : xIns xg 61 22 = some (.iinc 2 1) := by decide +kernel
theorem i61_25 : xIns xg 61 25 = some (.goto (-21)) := by decide +kernel
theorem i61_28 : xIns xg 61 28 = some (.iload_n 1) := by decide +kernel
theorem i61_29 : xIns xg 61 29 = some (.ireturn) := by decide +kernel
theorem i81_59 : xIns xg 81 59 = some (.ireturn) := by decide +kernel
theorem i81_60 : xIns xg 81 60 = some (.aload_n 0) := by decide +kernel
theorem i81_61 : xIns xg 81 61 = some (.getfield 35) := by decide +kernel
theorem f81_35 : xFld xg 81 35 = some (6, 3) := by decide +kernel
theorem i81_64 : xIns xg 81 64 = some (.invokevirtual 190) := by decide +kernel
theorem l81_190 : xMth xg 81 190 = some (0, 72, 1, 5) := by decide +kernel
theorem i81_67 : xIns xg 81 67 = some (.ireturn) := by decide +kernel
theorem i81_68 : xIns xg 81 68 = some (.aload_n 0) := by decide +kernel
theorem i81_69 : xIns xg 81 69 = some (.getfield 35) := by decide +kernel
theorem i81_72 : xIns xg 81 72 = some (.invokevirtual 193) := by decide +kernel
theorem l81_193 : xMth xg 81 193 = some (0, 71, 1, 5) := by decide +kernel
theorem i81_75 : xIns xg 81 75 = some (.ireturn) := by decide +kernel
theorem i81_76 : xIns xg 81 76 = some (.aload_n 0) := by decide +kernel
theorem i81_77 : xIns xg 81 77 = some (.getfield 79) := by decide +kernel
theorem f81_79 : xFld xg 81 79 = some (6, 13) := by decide +kernel
theorem i81_80 : xIns xg 81 80 = some (.ireturn) := by decide +kernel
theorem i81_81 : xIns xg 81 81 = some (.aload_n 0) := by decide +kernel
theorem i81_82 : xIns xg 81 82 = some (.getfield 10) := by decide +kernel
theorem f81_10 : xFld xg 81 10 = some (6, 0) := by decide +kernel
theorem i81_85 : xIns xg 81 85 = some (.getfield 253) := by decide +kernel
theorem f81_253 : xFld xg 81 253 = some (1, 1) := by decide +kernel
theorem i81_88 : xIns xg 81 88 = some (.ireturn) := by decide +kernel
theorem i81_89 : xIns xg 81 89 = some (.aload_n 0) := by decide +kernel
theorem i81_90 : xIns xg 81 90 = some (.getfield 76) := by decide +kernel
theorem f81_76 : xFld xg 81 76 = some (6, 12) := by decide +kernel
theorem i81_93 : xIns xg 81 93 = some (.ireturn) := by decide +kernel
theorem i81_94 : xIns xg 81 94 = some (.bipush (-2)) := by decide +kernel
theorem i81_96 : xIns xg 81 96 = some (.ireturn) := by decide +kernel
theorem i107_0 : xIns xg 107 0 = some (.iload_n 1) := by decide +kernel
theorem i107_1 : xIns xg 107 1 = some (.invokestatic 215) := by decide +kernel
theorem l107_215 : xMth xg 107 215 = some (1, 97, 1, 0) := by decide +kernel
theorem i107_4 : xIns xg 107 4 = some (.ifCond .ne 6) := by decide +kernel
theorem i107_7 : xIns xg 107 7 = some (.bipush (-2)) := by decide +kernel
theorem i107_9 : xIns xg 107 9 = some (.ireturn) := by decide +kernel
theorem m107 : (xMet xg 107).2.2 = (5, (some .int)) := by decide +kernel
theorem i107_10 : xIns xg 107 10 = some (.aload_n 0) := by decide +kernel
theorem i107_11 : xIns xg 107 11 = some (.getfield 54) := by decide +kernel
theorem f107_54 : xFld xg 107 54 = some (6, 6) := by decide +kernel
theorem i107_14 : xIns xg 107 14 = some (.iload_n 1) := by decide +kernel
theorem i107_15 : xIns xg 107 15 = some (.invokevirtual 233) := by decide +kernel
theorem l107_233 : xMth xg 107 233 = some (0, 33, 2, 2) := by decide +kernel
theorem m33 : (xMet xg 33).2.2 = (2, (some .boolean)) := by decide +kernel
theorem i33_0 : xIns xg 33 0 = some (.aload_n 0) := by decide +kernel
theorem i33_1 : xIns xg 33 1 = some (.getfield 9) := by decide +kernel
theorem f33_9 : xFld xg 33 9 = some (2, 0) := by decide +kernel
theorem i33_4 : xIns xg 33 4 = some (.iload_n 1) := by decide +kernel
theorem i33_5 : xIns xg 33 5 = some (.iaload) := by decide +kernel
theorem i33_6 : xIns xg 33 6 = some (.iconst (-1)) := by decide +kernel
theorem i33_7 : xIns xg 33 7 = some (.if_icmp .ne 7) := by decide +kernel
theorem i33_10 : xIns xg 33 10 = some (.iconst 1) := by decide +kernel
theorem i33_11 : xIns xg 33 11 = some (.goto 4) := by decide +kernel
theorem i33_15 : xIns xg 33 15 = some (.ireturn) := by decide +kernel
theorem i107_18 : xIns xg 107 18 = some (.ifCond .eq 6) := by decide +kernel
theorem i107_21 : xIns xg 107 21 = some (.bipush (-11)) := by decide +kernel
theorem i107_23 : xIns xg 107 23 = some (.ireturn) := by decide +kernel
theorem i100_0 : xIns xg 100 0 = some (.iload_n 1) := by decide +kernel
theorem i100_1 : xIns xg 100 1 = some (.invokestatic 215) := by decide +kernel
theorem l100_215 : xMth xg 100 215 = some (1, 97, 1, 0) := by decide +kernel
theorem i100_4 : xIns xg 100 4 = some (.ifCond .eq 27) := by decide +kernel
theorem i100_31 : xIns xg 100 31 = some (.ldc2_w 133) := by decide +kernel
theorem c100_133 : xCon xg 100 133 = some (.long (-4611686018427387904)) := by decide +kernel
theorem i100_34 : xIns xg 100 34 = some (.lreturn) := by decide +kernel
theorem m100 : (xMet xg 100).2.2 = (3, (some .long)) := by decide +kernel
theorem i100_7 : xIns xg 100 7 = some (.aload_n 0) := by decide +kernel
theorem i100_8 : xIns xg 100 8 = some (.getfield 54) := by decide +kernel
theorem f100_54 : xFld xg 100 54 = some (6, 6) := by decide +kernel
theorem i100_11 : xIns xg 100 11 = some (.iload_n 1) := by decide +kernel
theorem i100_12 : xIns xg 100 12 = some (.invokevirtual 233) := by decide +kernel
theorem l100_233 : xMth xg 100 233 = some (0, 33, 2, 2) := by decide +kernel
theorem i100_15 : xIns xg 100 15 = some (.ifCond .ne 16) := by decide +kernel
theorem i80_0 : xIns xg 80 0 = some (.iload_n 1) := by decide +kernel
theorem i80_1 : xIns xg 80 1 = some (.invokestatic 215) := by decide +kernel
theorem l80_215 : xMth xg 80 215 = some (1, 97, 1, 0) := by decide +kernel
theorem i80_4 : xIns xg 80 4 = some (.ifCond .eq 10) := by decide +kernel
theorem i80_14 : xIns xg 80 14 = some (.bipush (-2)) := by decide +kernel
theorem i80_16 : xIns xg 80 16 = some (.ireturn) := by decide +kernel
theorem m80 : (xMet xg 80).2.2 = (6, (some .int)) := by decide +kernel
theorem i80_7 : xIns xg 80 7 = some (.iload_n 3) := by decide +kernel
theorem i80_8 : xIns xg 80 8 = some (.invokestatic 215) := by decide +kernel
theorem i80_11 : xIns xg 80 11 = some (.ifCond .ne 6) := by decide +kernel
theorem i80_17 : xIns xg 80 17 = some (.aload_n 0) := by decide +kernel
theorem i80_18 : xIns xg 80 18 = some (.getfield 54) := by decide +kernel
theorem f80_54 : xFld xg 80 54 = some (6, 6) := by decide +kernel
theorem i80_21 : xIns xg 80 21 = some (.iload_n 1) := by decide +kernel
theorem i80_22 : xIns xg 80 22 = some (.invokevirtual 233) := by decide +kernel
theorem l80_233 : xMth xg 80 233 = some (0, 33, 2, 2) := by decide +kernel
theorem i80_25 : xIns xg 80 25 = some (.ifCond .ne 14) := by decide +kernel
theorem i80_39 : xIns xg 80 39 = some (.bipush (-11)) := by decide +kernel
theorem i80_41 : xIns xg 80 41 = some (.ireturn) := by decide +kernel
theorem i101_0 : xIns xg 101 0 = some (.iload_n 1) := by decide +kernel
theorem i101_1 : xIns xg 101 1 = some (.invokestatic 215) := by decide +kernel
theorem l101_215 : xMth xg 101 215 = some (1, 97, 1, 0) := by decide +kernel
theorem i101_4 : xIns xg 101 4 = some (.ifCond .eq 10) := by decide +kernel
theorem i101_14 : xIns xg 101 14 = some (.bipush (-2)) := by decide +kernel
theorem i101_16 : xIns xg 101 16 = some (.ireturn) := by decide +kernel
theorem m101 : (xMet xg 101).2.2 = (8, (some .int)) := by decide +kernel
theorem i101_7 : xIns xg 101 7 = some (.iload_n 2) := by decide +kernel
theorem i101_8 : xIns xg 101 8 = some (.invokestatic 86) := by decide +kernel
theorem l101_86 : xMth xg 101 86 = some (1, 98, 1, 0) := by decide +kernel
theorem i101_11 : xIns xg 101 11 = some (.ifCond .ne 6) := by decide +kernel
theorem i101_17 : xIns xg 101 17 = some (.iload_n 3) := by decide +kernel
theorem i101_18 : xIns xg 101 18 = some (.ifCond .lt 21) := by decide +kernel
theorem i101_39 : xIns xg 101 39 = some (.bipush (-2)) := by decide +kernel
theorem i101_41 : xIns xg 101 41 = some (.ireturn) := by decide +kernel
theorem i101_21 : xIns xg 101 21 = some (.iload_n 3) := by decide +kernel
theorem i101_22 : xIns xg 101 22 = some (.iconst 2) := by decide +kernel
theorem i101_23 : xIns xg 101 23 = some (.if_icmp .gt 16) := by decide +kernel
theorem i101_26 : xIns xg 101 26 = some (.iload 5) := by decide +kernel
theorem i101_28 : xIns xg 101 28 = some (.iconst 1) := by decide +kernel
theorem i101_29 : xIns xg 101 29 = some (.if_icmp .lt 10) := by decide +kernel
theorem i101_32 : xIns xg 101 32 = some (.iload 5) := by decide +kernel
theorem i101_34 : xIns xg 101 34 = some (.bipush 8) := by decide +kernel
theorem i101_36 : xIns xg 101 36 = some (.if_icmp .le 6) := by decide +kernel
theorem i101_42 : xIns xg 101 42 = some (.aload_n 0) := by decide +kernel
theorem i101_43 : xIns xg 101 43 = some (.getfield 54) := by decide +kernel
theorem f101_54 : xFld xg 101 54 = some (6, 6) := by decide +kernel
theorem i101_46 : xIns xg 101 46 = some (.iload_n 1) := by decide +kernel
theorem i101_47 : xIns xg 101 47 = some (.invokevirtual 233) := by decide +kernel
theorem l101_233 : xMth xg 101 233 = some (0, 33, 2, 2) := by decide +kernel
theorem i101_50 : xIns xg 101 50 = some (.ifCond .ne 19) := by decide +kernel
theorem i101_69 : xIns xg 101 69 = some (.aload_n 0) := by decide +kernel
theorem i101_70 : xIns xg 101 70 = some (.getfield 54) := by decide +kernel
theorem i101_73 : xIns xg 101 73 = some (.iload_n 1) := by decide +kernel
theorem i101_74 : xIns xg 101 74 = some (.invokevirtual 233) := by decide +kernel
theorem i101_77 : xIns xg 101 77 = some (.ifCond .eq 6) := by decide +kernel
theorem i101_80 : xIns xg 101 80 = some (.bipush (-11)) := by decide +kernel
theorem i101_82 : xIns xg 101 82 = some (.ireturn) := by decide +kernel
def sp_film (a1 : Int32) (a2 : Int32) (a3 : Int32) : Int32 := (if (a1) < 0 then (-2) else (if 4 ≤ (a1) then (-2) else (if (a2) < 0 then (-2) else (if 8 ≤ (a2) then (-2) else (if (a3) < 0 then (-2) else (if (a3) ≤ 16 then (-3) else (-2)))))))
set_option maxHeartbeats 4000000 in
set_option maxRecDepth 100000 in
theorem q_film {sc : xS} {d : Nat} (t : xH) (a1 : Int32) (a2 : Int32) (a3 : Int32) : xT xg sc (d + 12) 87 0 [(0, .ref 0), (1, .int (a1)), (2, .int (a2)), (3, .int (a3))] [] (hC t) (fun r => r.1 = some (.int (sp_film a1 a2 a3)) ∧ (∃ f, r.2.1 = xpre f t) ∧ r.2.2 = (0, 0)) := by
  refine wLin 1 i87_0 rfl rfl ?_
  refine jCall 4 [.int (a1)] [] [(0, .int (a1))] i87_1 rfl (xlk1 l87_215) (Or.inr (Or.inl rfl)) m97 rfl rfl (Nat.le_of_ble_eq_true rfl) (Nat.le_of_ble_eq_true rfl) (Nat.le_of_ble_eq_true rfl) rfl rfl rfl ?_
  refine wLin 1 i97_0 rfl rfl ?_
  by_cases c1 : (a1) < 0
  ·
    refine wZT 13 i97_1 rfl (decide_eq_true c1) ?_
    refine wK 14 0 i97_13 (by decide) rfl ?_
    refine jRi i97_14 m97 (by decide) ?_
    refine wZF 10 7 i87_4 rfl (by decide) rfl ?_
    refine wKb 9 (-2) i87_7 (by decide) rfl ?_
    refine wRi i87_9 m87 rfl ?_
    refine ⟨congrArg (fun z => some (Value.int z)) ?_, xpre_of _ _ rfl, rfl⟩
    rw [sp_film, if_pos c1]
  ·
    refine wZF 13 4 i97_1 rfl (decide_eq_false c1) rfl ?_
    refine wLin 5 i97_4 rfl rfl ?_
    refine wK 6 4 i97_5 (by decide) rfl ?_
    by_cases c2 : 4 ≤ (a1)
    ·
      refine wCT 13 i97_6 rfl (decide_eq_true c2) ?_
      refine wK 14 0 i97_13 (by decide) rfl ?_
      refine jRi i97_14 m97 (by decide) ?_
      refine wZF 10 7 i87_4 rfl (by decide) rfl ?_
      refine wKb 9 (-2) i87_7 (by decide) rfl ?_
      refine wRi i87_9 m87 rfl ?_
      refine ⟨congrArg (fun z => some (Value.int z)) ?_, xpre_of _ _ rfl, rfl⟩
      rw [sp_film, if_neg c1, if_pos c2]
    ·
      refine wCF 13 9 i97_6 rfl (decide_eq_false c2) rfl ?_
      refine wK 10 1 i97_9 (by decide) rfl ?_
      refine wGo 14 i97_10 rfl ?_
      refine jRi i97_14 m97 (by decide) ?_
      refine wZT 10 i87_4 rfl (by decide) ?_
      refine wLan 11 i87_10 rfl rfl ?_
      refine wLin 12 i87_11 rfl rfl ?_
      refine wLin 13 i87_12 rfl rfl ?_
      refine wKb 15 16 i87_13 (by decide) rfl ?_
      refine jCall 18 [.ref 0, .int (a2), .int (a3), .int 16] [] [(0, .ref 0), (1, .int (a2)), (2, .int (a3)), (3, .int 16)] i87_15 rfl (xlk0 l87_196) (Or.inl rfl) m109 rfl rfl (Nat.le_of_ble_eq_true rfl) (Nat.le_of_ble_eq_true rfl) (Nat.le_of_ble_eq_true rfl) rfl rfl rfl ?_
      refine wLin 1 i109_0 rfl rfl ?_
      refine jCall 4 [.int (a2)] [] [(0, .int (a2))] i109_1 rfl (xlk1 l109_86) (Or.inr (Or.inl rfl)) m98 rfl rfl (Nat.le_of_ble_eq_true rfl) (Nat.le_of_ble_eq_true rfl) (Nat.le_of_ble_eq_true rfl) rfl rfl rfl ?_
      refine wLin 1 i98_0 rfl rfl ?_
      by_cases c3 : (a2) < 0
      ·
        refine wZT 14 i98_1 rfl (decide_eq_true c3) ?_
        refine wK 15 0 i98_14 (by decide) rfl ?_
        refine jRi i98_15 m98 (by decide) ?_
        refine wZT 16 i109_4 rfl (by decide) ?_
        refine wKb 18 (-2) i109_16 (by decide) rfl ?_
        refine jRi i109_18 m109 rfl ?_
        refine wSi 20 [(4, .int (-2)), (0, .ref 0), (1, .int (a1)), (2, .int (a2)), (3, .int (a3))] i87_18 m87 (by decide) rfl rfl ?_
        refine wLi 22 i87_20 rfl rfl ?_
        refine wZF 28 25 i87_22 rfl (by decide) rfl ?_
        refine wLi 27 i87_25 rfl rfl ?_
        refine wRi i87_27 m87 rfl ?_
        refine ⟨congrArg (fun z => some (Value.int z)) ?_, xpre_of _ _ rfl, rfl⟩
        rw [sp_film, if_neg c1, if_neg c2, if_pos c3]
      ·
        refine wZF 14 4 i98_1 rfl (decide_eq_false c3) rfl ?_
        refine wLin 5 i98_4 rfl rfl ?_
        refine wKb 7 8 i98_5 (by decide) rfl ?_
        by_cases c4 : 8 ≤ (a2)
        ·
          refine wCT 14 i98_7 rfl (decide_eq_true c4) ?_
          refine wK 15 0 i98_14 (by decide) rfl ?_
          refine jRi i98_15 m98 (by decide) ?_
          refine wZT 16 i109_4 rfl (by decide) ?_
          refine wKb 18 (-2) i109_16 (by decide) rfl ?_
          refine jRi i109_18 m109 rfl ?_
          refine wSi 20 [(4, .int (-2)), (0, .ref 0), (1, .int (a1)), (2, .int (a2)), (3, .int (a3))] i87_18 m87 (by decide) rfl rfl ?_
          refine wLi 22 i87_20 rfl rfl ?_
          refine wZF 28 25 i87_22 rfl (by decide) rfl ?_
          refine wLi 27 i87_25 rfl rfl ?_
          refine wRi i87_27 m87 rfl ?_
          refine ⟨congrArg (fun z => some (Value.int z)) ?_, xpre_of _ _ rfl, rfl⟩
          rw [sp_film, if_neg c1, if_neg c2, if_neg c3, if_pos c4]
        ·
          refine wCF 14 10 i98_7 rfl (decide_eq_false c4) rfl ?_
          refine wK 11 1 i98_10 (by decide) rfl ?_
          refine wGo 15 i98_11 rfl ?_
          refine jRi i98_15 m98 (by decide) ?_
          refine wZF 16 7 i109_4 rfl (by decide) rfl ?_
          refine wLin 8 i109_7 rfl rfl ?_
          by_cases c5 : (a3) < 0
          ·
            refine wZT 16 i109_8 rfl (decide_eq_true c5) ?_
            refine wKb 18 (-2) i109_16 (by decide) rfl ?_
            refine jRi i109_18 m109 rfl ?_
            refine wSi 20 [(4, .int (-2)), (0, .ref 0), (1, .int (a1)), (2, .int (a2)), (3, .int (a3))] i87_18 m87 (by decide) rfl rfl ?_
            refine wLi 22 i87_20 rfl rfl ?_
            refine wZF 28 25 i87_22 rfl (by decide) rfl ?_
            refine wLi 27 i87_25 rfl rfl ?_
            refine wRi i87_27 m87 rfl ?_
            refine ⟨congrArg (fun z => some (Value.int z)) ?_, xpre_of _ _ rfl, rfl⟩
            rw [sp_film, if_neg c1, if_neg c2, if_neg c3, if_neg c4, if_pos c5]
          ·
            refine wZF 16 11 i109_8 rfl (decide_eq_false c5) rfl ?_
            refine wLin 12 i109_11 rfl rfl ?_
            refine wLin 13 i109_12 rfl rfl ?_
            by_cases c6 : (a3) ≤ 16
            ·
              refine wCT 19 i109_13 rfl (decide_eq_true c6) ?_
              refine wLan 20 i109_19 rfl rfl ?_
              refine wLin 21 i109_20 rfl rfl ?_
              refine jCall 24 [.ref 0, .int (a2)] [] [(0, .ref 0), (1, .int (a2))] i109_21 rfl (xlk0 l109_108) (Or.inl rfl) m95 rfl rfl (Nat.le_of_ble_eq_true rfl) (Nat.le_of_ble_eq_true rfl) (Nat.le_of_ble_eq_true rfl) rfl rfl rfl ?_
              refine wLan 1 i95_0 rfl rfl ?_
              refine wGet 4 (.ref 17) i95_1 f95_28 rfl rfl rfl ?_
              refine wGet 7 (.ref 18) i95_4 f95_104 rfl rfl rfl ?_
              refine wLin 8 i95_7 rfl rfl ?_
              refine wIal 9 i95_8 rfl (x_ib (Int32.not_lt.mp c3) (x_lt1 (z := 7) (Int32.not_le.mp c4) (by decide)) (by decide) (by decide)) rfl ?_
              refine tTop (v := 0) rfl ?_
              refine wZF 16 12 i95_9 rfl (by decide) rfl ?_
              refine wK 13 1 i95_12 (by decide) rfl ?_
              refine wGo 17 i95_13 rfl ?_
              refine jRi i95_17 m95 (by decide) ?_
              refine wZF 32 27 i109_24 rfl (by decide) rfl ?_
              refine wKb 29 (-3) i109_27 (by decide) rfl ?_
              refine wGo 33 i109_29 rfl ?_
              refine jRi i109_33 m109 rfl ?_
              refine wSi 20 [(4, .int (-3)), (0, .ref 0), (1, .int (a1)), (2, .int (a2)), (3, .int (a3))] i87_18 m87 (by decide) rfl rfl ?_
              refine wLi 22 i87_20 rfl rfl ?_
              refine wZF 28 25 i87_22 rfl (by decide) rfl ?_
              refine wLi 27 i87_25 rfl rfl ?_
              refine wRi i87_27 m87 rfl ?_
              refine ⟨congrArg (fun z => some (Value.int z)) ?_, xpre_of _ _ rfl, rfl⟩
              rw [sp_film, if_neg c1, if_neg c2, if_neg c3, if_neg c4, if_neg c5, if_pos c6]
            ·
              refine wCF 19 16 i109_13 rfl (decide_eq_false c6) rfl ?_
              refine wKb 18 (-2) i109_16 (by decide) rfl ?_
              refine jRi i109_18 m109 rfl ?_
              refine wSi 20 [(4, .int (-2)), (0, .ref 0), (1, .int (a1)), (2, .int (a2)), (3, .int (a3))] i87_18 m87 (by decide) rfl rfl ?_
              refine wLi 22 i87_20 rfl rfl ?_
              refine wZF 28 25 i87_22 rfl (by decide) rfl ?_
              refine wLi 27 i87_25 rfl rfl ?_
              refine wRi i87_27 m87 rfl ?_
              refine ⟨congrArg (fun z => some (Value.int z)) ?_, xpre_of _ _ rfl, rfl⟩
              rw [sp_film, if_neg c1, if_neg c2, if_neg c3, if_neg c4, if_neg c5, if_neg c6]
def sp_tells (a1 : Int32) (a2 : Int32) (a3 : Int32) : Int32 := (if (a1) < 0 then (-2) else (if 4 ≤ (a1) then (-2) else (if (a2) < 0 then (-2) else (if 8 ≤ (a2) then (-2) else (if (a3) = 0 then (-3) else (if (a3) < 4 then (-2) else (if 1 < ((a3) - (a3) / 4 * 4) then (-2) else (-3))))))))
set_option maxHeartbeats 4000000 in
set_option maxRecDepth 100000 in
theorem q_tells {sc : xS} {d : Nat} (t : xH) (a1 : Int32) (a2 : Int32) (a3 : Int32) : xT xg sc (d + 12) 116 0 [(0, .ref 0), (1, .int (a1)), (2, .int (a2)), (3, .int (a3))] [] (hC t) (fun r => r.1 = some (.int (sp_tells a1 a2 a3)) ∧ (∃ f, r.2.1 = xpre f t) ∧ r.2.2 = (0, 0)) := by
  refine wLin 1 i116_0 rfl rfl ?_
  refine jCall 4 [.int (a1)] [] [(0, .int (a1))] i116_1 rfl (xlk1 l116_215) (Or.inr (Or.inl rfl)) m97 rfl rfl (Nat.le_of_ble_eq_true rfl) (Nat.le_of_ble_eq_true rfl) (Nat.le_of_ble_eq_true rfl) rfl rfl rfl ?_
  refine wLin 1 i97_0 rfl rfl ?_
  by_cases c1 : (a1) < 0
  ·
    refine wZT 13 i97_1 rfl (decide_eq_true c1) ?_
    refine wK 14 0 i97_13 (by decide) rfl ?_
    refine jRi i97_14 m97 (by decide) ?_
    refine wZT 21 i116_4 rfl (by decide) ?_
    refine wKb 23 (-2) i116_21 (by decide) rfl ?_
    refine wRi i116_23 m116 rfl ?_
    refine ⟨congrArg (fun z => some (Value.int z)) ?_, xpre_of _ _ rfl, rfl⟩
    rw [sp_tells, if_pos c1]
  ·
    refine wZF 13 4 i97_1 rfl (decide_eq_false c1) rfl ?_
    refine wLin 5 i97_4 rfl rfl ?_
    refine wK 6 4 i97_5 (by decide) rfl ?_
    by_cases c2 : 4 ≤ (a1)
    ·
      refine wCT 13 i97_6 rfl (decide_eq_true c2) ?_
      refine wK 14 0 i97_13 (by decide) rfl ?_
      refine jRi i97_14 m97 (by decide) ?_
      refine wZT 21 i116_4 rfl (by decide) ?_
      refine wKb 23 (-2) i116_21 (by decide) rfl ?_
      refine wRi i116_23 m116 rfl ?_
      refine ⟨congrArg (fun z => some (Value.int z)) ?_, xpre_of _ _ rfl, rfl⟩
      rw [sp_tells, if_neg c1, if_pos c2]
    ·
      refine wCF 13 9 i97_6 rfl (decide_eq_false c2) rfl ?_
      refine wK 10 1 i97_9 (by decide) rfl ?_
      refine wGo 14 i97_10 rfl ?_
      refine jRi i97_14 m97 (by decide) ?_
      refine wZF 21 7 i116_4 rfl (by decide) rfl ?_
      refine wLin 8 i116_7 rfl rfl ?_
      refine jCall 11 [.int (a2)] [] [(0, .int (a2))] i116_8 rfl (xlk1 l116_86) (Or.inr (Or.inl rfl)) m98 rfl rfl (Nat.le_of_ble_eq_true rfl) (Nat.le_of_ble_eq_true rfl) (Nat.le_of_ble_eq_true rfl) rfl rfl rfl ?_
      refine wLin 1 i98_0 rfl rfl ?_
      by_cases c3 : (a2) < 0
      ·
        refine wZT 14 i98_1 rfl (decide_eq_true c3) ?_
        refine wK 15 0 i98_14 (by decide) rfl ?_
        refine jRi i98_15 m98 (by decide) ?_
        refine wZT 21 i116_11 rfl (by decide) ?_
        refine wKb 23 (-2) i116_21 (by decide) rfl ?_
        refine wRi i116_23 m116 rfl ?_
        refine ⟨congrArg (fun z => some (Value.int z)) ?_, xpre_of _ _ rfl, rfl⟩
        rw [sp_tells, if_neg c1, if_neg c2, if_pos c3]
      ·
        refine wZF 14 4 i98_1 rfl (decide_eq_false c3) rfl ?_
        refine wLin 5 i98_4 rfl rfl ?_
        refine wKb 7 8 i98_5 (by decide) rfl ?_
        by_cases c4 : 8 ≤ (a2)
        ·
          refine wCT 14 i98_7 rfl (decide_eq_true c4) ?_
          refine wK 15 0 i98_14 (by decide) rfl ?_
          refine jRi i98_15 m98 (by decide) ?_
          refine wZT 21 i116_11 rfl (by decide) ?_
          refine wKb 23 (-2) i116_21 (by decide) rfl ?_
          refine wRi i116_23 m116 rfl ?_
          refine ⟨congrArg (fun z => some (Value.int z)) ?_, xpre_of _ _ rfl, rfl⟩
          rw [sp_tells, if_neg c1, if_neg c2, if_neg c3, if_pos c4]
        ·
          refine wCF 14 10 i98_7 rfl (decide_eq_false c4) rfl ?_
          refine wK 11 1 i98_10 (by decide) rfl ?_
          refine wGo 15 i98_11 rfl ?_
          refine jRi i98_15 m98 (by decide) ?_
          refine wZF 21 14 i116_11 rfl (by decide) rfl ?_
          refine wLin 15 i116_14 rfl rfl ?_
          refine jCall 18 [.int (a3)] [] [(0, .int (a3))] i116_15 rfl (xlk1 l116_230) (Or.inr (Or.inl rfl)) m96 rfl rfl (Nat.le_of_ble_eq_true rfl) (Nat.le_of_ble_eq_true rfl) (Nat.le_of_ble_eq_true rfl) rfl rfl rfl ?_
          refine wLin 1 i96_0 rfl rfl ?_
          by_cases c5 : (a3) = 0
          ·
            refine wZT 16 i96_1 rfl (decide_eq_true c5) ?_
            subst c5
            refine wK 17 1 i96_16 (by decide) rfl ?_
            refine wGo 21 i96_17 rfl ?_
            refine jRi i96_21 m96 (by decide) ?_
            refine wZT 24 i116_18 rfl (by decide) ?_
            refine wLan 25 i116_24 rfl rfl ?_
            refine wLin 26 i116_25 rfl rfl ?_
            refine jCall 29 [.ref 0, .int (a2)] [] [(0, .ref 0), (1, .int (a2))] i116_26 rfl (xlk0 l116_108) (Or.inl rfl) m95 rfl rfl (Nat.le_of_ble_eq_true rfl) (Nat.le_of_ble_eq_true rfl) (Nat.le_of_ble_eq_true rfl) rfl rfl rfl ?_
            refine wLan 1 i95_0 rfl rfl ?_
            refine wGet 4 (.ref 17) i95_1 f95_28 rfl rfl rfl ?_
            refine wGet 7 (.ref 18) i95_4 f95_104 rfl rfl rfl ?_
            refine wLin 8 i95_7 rfl rfl ?_
            refine wIal 9 i95_8 rfl (x_ib (Int32.not_lt.mp c3) (x_lt1 (z := 7) (Int32.not_le.mp c4) (by decide)) (by decide) (by decide)) rfl ?_
            refine tTop (v := 0) rfl ?_
            refine wZF 16 12 i95_9 rfl (by decide) rfl ?_
            refine wK 13 1 i95_12 (by decide) rfl ?_
            refine wGo 17 i95_13 rfl ?_
            refine jRi i95_17 m95 (by decide) ?_
            refine wZF 35 32 i116_29 rfl (by decide) rfl ?_
            refine wKb 34 (-3) i116_32 (by decide) rfl ?_
            refine wRi i116_34 m116 rfl ?_
            refine ⟨congrArg (fun z => some (Value.int z)) ?_, xpre_of _ _ rfl, rfl⟩
            rw [sp_tells, if_neg c1, if_neg c2, if_neg c3, if_neg c4, if_pos rfl]
          ·
            refine wZF 16 4 i96_1 rfl (decide_eq_false c5) rfl ?_
            refine wLin 5 i96_4 rfl rfl ?_
            refine wK 6 4 i96_5 (by decide) rfl ?_
            by_cases c6 : (a3) < 4
            ·
              refine wCT 20 i96_6 rfl (decide_eq_true c6) ?_
              refine wK 21 0 i96_20 (by decide) rfl ?_
              refine jRi i96_21 m96 (by decide) ?_
              refine wZF 24 21 i116_18 rfl (by decide) rfl ?_
              refine wKb 23 (-2) i116_21 (by decide) rfl ?_
              refine wRi i116_23 m116 rfl ?_
              refine ⟨congrArg (fun z => some (Value.int z)) ?_, xpre_of _ _ rfl, rfl⟩
              rw [sp_tells, if_neg c1, if_neg c2, if_neg c3, if_neg c4, if_neg c5, if_pos c6]
            ·
              refine wCF 20 9 i96_6 rfl (decide_eq_false c6) rfl ?_
              refine wLin 10 i96_9 rfl rfl ?_
              refine wK 11 4 i96_10 (by decide) rfl ?_
              refine wRem 12 i96_11 (by decide) rfl ?_
              refine wK 13 1 i96_12 (by decide) rfl ?_
              by_cases c7 : 1 < ((a3) - (a3) / 4 * 4)
              ·
                refine wCT 20 i96_13 rfl (decide_eq_true c7) ?_
                refine wK 21 0 i96_20 (by decide) rfl ?_
                refine jRi i96_21 m96 (by decide) ?_
                refine wZF 24 21 i116_18 rfl (by decide) rfl ?_
                refine wKb 23 (-2) i116_21 (by decide) rfl ?_
                refine wRi i116_23 m116 rfl ?_
                refine ⟨congrArg (fun z => some (Value.int z)) ?_, xpre_of _ _ rfl, rfl⟩
                rw [sp_tells, if_neg c1, if_neg c2, if_neg c3, if_neg c4, if_neg c5, if_neg c6, if_pos c7]
              ·
                refine wCF 20 16 i96_13 rfl (decide_eq_false c7) rfl ?_
                refine wK 17 1 i96_16 (by decide) rfl ?_
                refine wGo 21 i96_17 rfl ?_
                refine jRi i96_21 m96 (by decide) ?_
                refine wZT 24 i116_18 rfl (by decide) ?_
                refine wLan 25 i116_24 rfl rfl ?_
                refine wLin 26 i116_25 rfl rfl ?_
                refine jCall 29 [.ref 0, .int (a2)] [] [(0, .ref 0), (1, .int (a2))] i116_26 rfl (xlk0 l116_108) (Or.inl rfl) m95 rfl rfl (Nat.le_of_ble_eq_true rfl) (Nat.le_of_ble_eq_true rfl) (Nat.le_of_ble_eq_true rfl) rfl rfl rfl ?_
                refine wLan 1 i95_0 rfl rfl ?_
                refine wGet 4 (.ref 17) i95_1 f95_28 rfl rfl rfl ?_
                refine wGet 7 (.ref 18) i95_4 f95_104 rfl rfl rfl ?_
                refine wLin 8 i95_7 rfl rfl ?_
                refine wIal 9 i95_8 rfl (x_ib (Int32.not_lt.mp c3) (x_lt1 (z := 7) (Int32.not_le.mp c4) (by decide)) (by decide) (by decide)) rfl ?_
                refine tTop (v := 0) rfl ?_
                refine wZF 16 12 i95_9 rfl (by decide) rfl ?_
                refine wK 13 1 i95_12 (by decide) rfl ?_
                refine wGo 17 i95_13 rfl ?_
                refine jRi i95_17 m95 (by decide) ?_
                refine wZF 35 32 i116_29 rfl (by decide) rfl ?_
                refine wKb 34 (-3) i116_32 (by decide) rfl ?_
                refine wRi i116_34 m116 rfl ?_
                refine ⟨congrArg (fun z => some (Value.int z)) ?_, xpre_of _ _ rfl, rfl⟩
                rw [sp_tells, if_neg c1, if_neg c2, if_neg c3, if_neg c4, if_neg c5, if_neg c6, if_neg c7]
def sp_image  : Int32 := 0
set_option maxHeartbeats 4000000 in
set_option maxRecDepth 100000 in
theorem q_image {sc : xS} {d : Nat} (t : xH)  : xT xg sc (d + 12) 92 0 [(0, .ref 0)] [] (hC t) (fun r => r.1 = some (.int (sp_image )) ∧ (∃ f, r.2.1 = xpre f t) ∧ r.2.2 = (0, 0)) := by
  refine wLan 1 i92_0 rfl rfl ?_
  refine wGet 4 (.ref 56) i92_1 f92_62 rfl rfl rfl ?_
  refine wLan 5 i92_4 rfl rfl ?_
  refine wGet 8 (.ref 17) i92_5 f92_28 rfl rfl rfl ?_
  refine jCall 11 [.ref 56, .ref 17] [] [(0, .ref 56), (1, .ref 17)] i92_8 rfl (xlk0 l92_244) (Or.inl rfl) m68 rfl rfl (Nat.le_of_ble_eq_true rfl) (Nat.le_of_ble_eq_true rfl) (Nat.le_of_ble_eq_true rfl) rfl rfl rfl ?_
  refine wK 1 0 i68_0 (by decide) rfl ?_
  refine wSin 2 [(2, .int 0), (0, .ref 56), (1, .ref 17)] i68_1 m68 (by decide) rfl rfl ?_
  refine wLin 3 i68_2 rfl rfl ?_
  refine wLan 4 i68_3 rfl rfl ?_
  refine wGet 7 (.ref 57) i68_4 f68_9 rfl rfl rfl ?_
  refine wAln 8 (n := 8) i68_7 rfl rfl (by decide) rfl ?_
  refine wCF 33 11 i68_8 rfl (by decide) rfl ?_
  refine wLin 12 i68_11 rfl rfl ?_
  refine wLan 13 i68_12 rfl rfl ?_
  refine wGet 16 (.ref 18) i68_13 f68_9 rfl rfl rfl ?_
  refine wAln 17 (n := 8) i68_16 rfl rfl (by decide) rfl ?_
  refine wCF 33 20 i68_17 rfl (by decide) rfl ?_
  refine wLan 21 i68_20 rfl rfl ?_
  refine wLan 22 i68_21 rfl rfl ?_
  refine wLin 23 i68_22 rfl rfl ?_
  refine wLin 24 i68_23 rfl rfl ?_
  refine jCall 27 [.ref 56, .ref 17, .int 0, .int 0] [] [(0, .ref 56), (1, .ref 17), (2, .int 0), (3, .int 0)] i68_24 rfl (xlk0 l68_47) (Or.inl rfl) m70 rfl rfl (Nat.le_of_ble_eq_true rfl) (Nat.le_of_ble_eq_true rfl) (Nat.le_of_ble_eq_true rfl) rfl rfl rfl ?_
  refine wLan 1 i70_0 rfl rfl ?_
  refine wGet 4 (.ref 57) i70_1 f70_9 rfl rfl rfl ?_
  refine wLin 5 i70_4 rfl rfl ?_
  refine wLan 6 i70_5 rfl rfl ?_
  refine wGet 9 (.ref 18) i70_6 f70_9 rfl rfl rfl ?_
  refine wLin 10 i70_9 rfl rfl ?_
  refine wIal 11 i70_10 rfl (by decide) rfl ?_
  refine tTop (v := 0) rfl ?_
  refine wIasS 12 i70_11 rfl (by decide) rfl rfl ?_
  refine wLan 13 i70_12 rfl rfl ?_
  refine wLan 14 i70_13 rfl rfl ?_
  refine wLin 15 i70_14 rfl rfl ?_
  refine wKb 17 24 i70_15 (by decide) rfl ?_
  refine wA 18 i70_17 rfl rfl rfl ?_
  refine tTop (v := 0) (by decide) ?_
  refine wLin 19 i70_18 rfl rfl ?_
  refine wKb 21 24 i70_19 (by decide) rfl ?_
  refine wA 22 i70_21 rfl rfl rfl ?_
  refine tTop (v := 0) (by decide) ?_
  refine wLan 23 i70_22 rfl rfl ?_
  refine wGet 26 (.ref 57) i70_23 f70_9 rfl rfl rfl ?_
  refine wLin 27 i70_26 rfl rfl ?_
  refine wIal 28 i70_27 rfl (by decide) rfl ?_
  refine tTop (v := 0) rfl ?_
  refine jCall 31 [.ref 56, .ref 17, .int 0, .int 0, .int 0] [] [(0, .ref 56), (1, .ref 17), (2, .int 0), (3, .int 0), (4, .int 0)] i70_28 rfl (xlk0 l70_43) (Or.inl rfl) m69 rfl rfl (Nat.le_of_ble_eq_true rfl) (Nat.le_of_ble_eq_true rfl) (Nat.le_of_ble_eq_true rfl) rfl rfl rfl ?_
  refine wLan 1 i69_0 rfl rfl ?_
  refine wGet 4 (.ref 19) i69_1 f69_15 rfl rfl rfl ?_
  refine wLin 5 i69_4 rfl rfl ?_
  refine wLan 6 i69_5 rfl rfl ?_
  refine wGet 9 (.ref 58) i69_6 f69_15 rfl rfl rfl ?_
  refine wLin 10 i69_9 rfl rfl ?_
  refine wLi 12 i69_10 rfl rfl ?_
  refine wCopy0i 15 i69_12 l69_51 rfl rfl (by decide) (by decide) (by decide) (by decide) (by decide) rfl ?_
  refine wLan 16 i69_15 rfl rfl ?_
  refine wGet 19 (.ref 20) i69_16 f69_18 rfl rfl rfl ?_
  refine wLin 20 i69_19 rfl rfl ?_
  refine wLan 21 i69_20 rfl rfl ?_
  refine wGet 24 (.ref 59) i69_21 f69_18 rfl rfl rfl ?_
  refine wLin 25 i69_24 rfl rfl ?_
  refine wLi 27 i69_25 rfl rfl ?_
  refine wCopy0i 30 i69_27 l69_51 rfl rfl (by decide) (by decide) (by decide) (by decide) (by decide) rfl ?_
  refine wLan 31 i69_30 rfl rfl ?_
  refine wGet 34 (.ref 21) i69_31 f69_21 rfl rfl rfl ?_
  refine wLin 35 i69_34 rfl rfl ?_
  refine wLan 36 i69_35 rfl rfl ?_
  refine wGet 39 (.ref 60) i69_36 f69_21 rfl rfl rfl ?_
  refine wLin 40 i69_39 rfl rfl ?_
  refine wLi 42 i69_40 rfl rfl ?_
  refine wCopy0i 45 i69_42 l69_51 rfl rfl (by decide) (by decide) (by decide) (by decide) (by decide) rfl ?_
  refine wLan 46 i69_45 rfl rfl ?_
  refine wGet 49 (.ref 22) i69_46 f69_24 rfl rfl rfl ?_
  refine wLin 50 i69_49 rfl rfl ?_
  refine wLan 51 i69_50 rfl rfl ?_
  refine wGet 54 (.ref 61) i69_51 f69_24 rfl rfl rfl ?_
  refine wLin 55 i69_54 rfl rfl ?_
  refine wLi 57 i69_55 rfl rfl ?_
  refine wCopy0i 60 i69_57 l69_51 rfl rfl (by decide) (by decide) (by decide) (by decide) (by decide) rfl ?_
  refine wLan 61 i69_60 rfl rfl ?_
  refine wGet 64 (.ref 23) i69_61 f69_27 rfl rfl rfl ?_
  refine wLin 65 i69_64 rfl rfl ?_
  refine wLan 66 i69_65 rfl rfl ?_
  refine wGet 69 (.ref 62) i69_66 f69_27 rfl rfl rfl ?_
  refine wLin 70 i69_69 rfl rfl ?_
  refine wLi 72 i69_70 rfl rfl ?_
  refine wCopy0i 75 i69_72 l69_51 rfl rfl (by decide) (by decide) (by decide) (by decide) (by decide) rfl ?_
  refine wLan 76 i69_75 rfl rfl ?_
  refine wGet 79 (.ref 24) i69_76 f69_30 rfl rfl rfl ?_
  refine wLin 80 i69_79 rfl rfl ?_
  refine wLan 81 i69_80 rfl rfl ?_
  refine wGet 84 (.ref 63) i69_81 f69_30 rfl rfl rfl ?_
  refine wLin 85 i69_84 rfl rfl ?_
  refine wLi 87 i69_85 rfl rfl ?_
  refine wCopy0i 90 i69_87 l69_51 rfl rfl (by decide) (by decide) (by decide) (by decide) (by decide) rfl ?_
  refine wLan 91 i69_90 rfl rfl ?_
  refine wGet 94 (.ref 25) i69_91 f69_33 rfl rfl rfl ?_
  refine wLin 95 i69_94 rfl rfl ?_
  refine wKb 97 8 i69_95 (by decide) rfl ?_
  refine wA 98 i69_97 rfl rfl rfl ?_
  refine tTop (v := 0) (by decide) ?_
  refine wLan 99 i69_98 rfl rfl ?_
  refine wGet 102 (.ref 64) i69_99 f69_33 rfl rfl rfl ?_
  refine wLin 103 i69_102 rfl rfl ?_
  refine wKb 105 8 i69_103 (by decide) rfl ?_
  refine wA 106 i69_105 rfl rfl rfl ?_
  refine tTop (v := 0) (by decide) ?_
  refine wLi 108 i69_106 rfl rfl ?_
  refine wKb 110 8 i69_108 (by decide) rfl ?_
  refine wA 111 i69_110 rfl rfl rfl ?_
  refine tTop (v := 0) (by decide) ?_
  refine wCopy0l 114 i69_111 l69_51 rfl rfl (by decide) (by decide) (by decide) (by decide) (by decide) rfl ?_
  refine jR0 i69_114 m69 ?_
  refine jR0 i70_31 m70 ?_
  refine wInc 30 [(2, .int 1), (0, .ref 56), (1, .ref 17)] 1 i68_27 m68 (by decide) rfl (by decide) rfl rfl ?_
  refine wGo 2 i68_30 rfl ?_
  refine wLin 3 i68_2 rfl rfl ?_
  refine wLan 4 i68_3 rfl rfl ?_
  refine wGet 7 (.ref 57) i68_4 f68_9 rfl rfl rfl ?_
  refine wAln 8 (n := 8) i68_7 rfl rfl (by decide) rfl ?_
  refine wCF 33 11 i68_8 rfl (by decide) rfl ?_
  refine wLin 12 i68_11 rfl rfl ?_
  refine wLan 13 i68_12 rfl rfl ?_
  refine wGet 16 (.ref 18) i68_13 f68_9 rfl rfl rfl ?_
  refine wAln 17 (n := 8) i68_16 rfl rfl (by decide) rfl ?_
  refine wCF 33 20 i68_17 rfl (by decide) rfl ?_
  refine wLan 21 i68_20 rfl rfl ?_
  refine wLan 22 i68_21 rfl rfl ?_
  refine wLin 23 i68_22 rfl rfl ?_
  refine wLin 24 i68_23 rfl rfl ?_
  refine jCall 27 [.ref 56, .ref 17, .int 1, .int 1] [] [(0, .ref 56), (1, .ref 17), (2, .int 1), (3, .int 1)] i68_24 rfl (xlk0 l68_47) (Or.inl rfl) m70 rfl rfl (Nat.le_of_ble_eq_true rfl) (Nat.le_of_ble_eq_true rfl) (Nat.le_of_ble_eq_true rfl) rfl rfl rfl ?_
  refine wLan 1 i70_0 rfl rfl ?_
  refine wGet 4 (.ref 57) i70_1 f70_9 rfl rfl rfl ?_
  refine wLin 5 i70_4 rfl rfl ?_
  refine wLan 6 i70_5 rfl rfl ?_
  refine wGet 9 (.ref 18) i70_6 f70_9 rfl rfl rfl ?_
  refine wLin 10 i70_9 rfl rfl ?_
  refine wIal 11 i70_10 rfl (by decide) rfl ?_
  refine tTop (v := 0) rfl ?_
  refine wIasS 12 i70_11 rfl (by decide) rfl rfl ?_
  refine wLan 13 i70_12 rfl rfl ?_
  refine wLan 14 i70_13 rfl rfl ?_
  refine wLin 15 i70_14 rfl rfl ?_
  refine wKb 17 24 i70_15 (by decide) rfl ?_
  refine wA 18 i70_17 rfl rfl rfl ?_
  refine tTop (v := 24) (by decide) ?_
  refine wLin 19 i70_18 rfl rfl ?_
  refine wKb 21 24 i70_19 (by decide) rfl ?_
  refine wA 22 i70_21 rfl rfl rfl ?_
  refine tTop (v := 24) (by decide) ?_
  refine wLan 23 i70_22 rfl rfl ?_
  refine wGet 26 (.ref 57) i70_23 f70_9 rfl rfl rfl ?_
  refine wLin 27 i70_26 rfl rfl ?_
  refine wIal 28 i70_27 rfl (by decide) rfl ?_
  refine tTop (v := 0) rfl ?_
  refine jCall 31 [.ref 56, .ref 17, .int 24, .int 24, .int 0] [] [(0, .ref 56), (1, .ref 17), (2, .int 24), (3, .int 24), (4, .int 0)] i70_28 rfl (xlk0 l70_43) (Or.inl rfl) m69 rfl rfl (Nat.le_of_ble_eq_true rfl) (Nat.le_of_ble_eq_true rfl) (Nat.le_of_ble_eq_true rfl) rfl rfl rfl ?_
  refine wLan 1 i69_0 rfl rfl ?_
  refine wGet 4 (.ref 19) i69_1 f69_15 rfl rfl rfl ?_
  refine wLin 5 i69_4 rfl rfl ?_
  refine wLan 6 i69_5 rfl rfl ?_
  refine wGet 9 (.ref 58) i69_6 f69_15 rfl rfl rfl ?_
  refine wLin 10 i69_9 rfl rfl ?_
  refine wLi 12 i69_10 rfl rfl ?_
  refine wCopy0i 15 i69_12 l69_51 rfl rfl (by decide) (by decide) (by decide) (by decide) (by decide) rfl ?_
  refine wLan 16 i69_15 rfl rfl ?_
  refine wGet 19 (.ref 20) i69_16 f69_18 rfl rfl rfl ?_
  refine wLin 20 i69_19 rfl rfl ?_
  refine wLan 21 i69_20 rfl rfl ?_
  refine wGet 24 (.ref 59) i69_21 f69_18 rfl rfl rfl ?_
  refine wLin 25 i69_24 rfl rfl ?_
  refine wLi 27 i69_25 rfl rfl ?_
  refine wCopy0i 30 i69_27 l69_51 rfl rfl (by decide) (by decide) (by decide) (by decide) (by decide) rfl ?_
  refine wLan 31 i69_30 rfl rfl ?_
  refine wGet 34 (.ref 21) i69_31 f69_21 rfl rfl rfl ?_
  refine wLin 35 i69_34 rfl rfl ?_
  refine wLan 36 i69_35 rfl rfl ?_
  refine wGet 39 (.ref 60) i69_36 f69_21 rfl rfl rfl ?_
  refine wLin 40 i69_39 rfl rfl ?_
  refine wLi 42 i69_40 rfl rfl ?_
  refine wCopy0i 45 i69_42 l69_51 rfl rfl (by decide) (by decide) (by decide) (by decide) (by decide) rfl ?_
  refine wLan 46 i69_45 rfl rfl ?_
  refine wGet 49 (.ref 22) i69_46 f69_24 rfl rfl rfl ?_
  refine wLin 50 i69_49 rfl rfl ?_
  refine wLan 51 i69_50 rfl rfl ?_
  refine wGet 54 (.ref 61) i69_51 f69_24 rfl rfl rfl ?_
  refine wLin 55 i69_54 rfl rfl ?_
  refine wLi 57 i69_55 rfl rfl ?_
  refine wCopy0i 60 i69_57 l69_51 rfl rfl (by decide) (by decide) (by decide) (by decide) (by decide) rfl ?_
  refine wLan 61 i69_60 rfl rfl ?_
  refine wGet 64 (.ref 23) i69_61 f69_27 rfl rfl rfl ?_
  refine wLin 65 i69_64 rfl rfl ?_
  refine wLan 66 i69_65 rfl rfl ?_
  refine wGet 69 (.ref 62) i69_66 f69_27 rfl rfl rfl ?_
  refine wLin 70 i69_69 rfl rfl ?_
  refine wLi 72 i69_70 rfl rfl ?_
  refine wCopy0i 75 i69_72 l69_51 rfl rfl (by decide) (by decide) (by decide) (by decide) (by decide) rfl ?_
  refine wLan 76 i69_75 rfl rfl ?_
  refine wGet 79 (.ref 24) i69_76 f69_30 rfl rfl rfl ?_
  refine wLin 80 i69_79 rfl rfl ?_
  refine wLan 81 i69_80 rfl rfl ?_
  refine wGet 84 (.ref 63) i69_81 f69_30 rfl rfl rfl ?_
  refine wLin 85 i69_84 rfl rfl ?_
  refine wLi 87 i69_85 rfl rfl ?_
  refine wCopy0i 90 i69_87 l69_51 rfl rfl (by decide) (by decide) (by decide) (by decide) (by decide) rfl ?_
  refine wLan 91 i69_90 rfl rfl ?_
  refine wGet 94 (.ref 25) i69_91 f69_33 rfl rfl rfl ?_
  refine wLin 95 i69_94 rfl rfl ?_
  refine wKb 97 8 i69_95 (by decide) rfl ?_
  refine wA 98 i69_97 rfl rfl rfl ?_
  refine tTop (v := 192) (by decide) ?_
  refine wLan 99 i69_98 rfl rfl ?_
  refine wGet 102 (.ref 64) i69_99 f69_33 rfl rfl rfl ?_
  refine wLin 103 i69_102 rfl rfl ?_
  refine wKb 105 8 i69_103 (by decide) rfl ?_
  refine wA 106 i69_105 rfl rfl rfl ?_
  refine tTop (v := 192) (by decide) ?_
  refine wLi 108 i69_106 rfl rfl ?_
  refine wKb 110 8 i69_108 (by decide) rfl ?_
  refine wA 111 i69_110 rfl rfl rfl ?_
  refine tTop (v := 0) (by decide) ?_
  refine wCopy0l 114 i69_111 l69_51 rfl rfl (by decide) (by decide) (by decide) (by decide) (by decide) rfl ?_
  refine jR0 i69_114 m69 ?_
  refine jR0 i70_31 m70 ?_
  refine wInc 30 [(2, .int 2), (0, .ref 56), (1, .ref 17)] 2 i68_27 m68 (by decide) rfl (by decide) rfl rfl ?_
  refine wGo 2 i68_30 rfl ?_
  refine wLin 3 i68_2 rfl rfl ?_
  refine wLan 4 i68_3 rfl rfl ?_
  refine wGet 7 (.ref 57) i68_4 f68_9 rfl rfl rfl ?_
  refine wAln 8 (n := 8) i68_7 rfl rfl (by decide) rfl ?_
  refine wCF 33 11 i68_8 rfl (by decide) rfl ?_
  refine wLin 12 i68_11 rfl rfl ?_
  refine wLan 13 i68_12 rfl rfl ?_
  refine wGet 16 (.ref 18) i68_13 f68_9 rfl rfl rfl ?_
  refine wAln 17 (n := 8) i68_16 rfl rfl (by decide) rfl ?_
  refine wCF 33 20 i68_17 rfl (by decide) rfl ?_
  refine wLan 21 i68_20 rfl rfl ?_
  refine wLan 22 i68_21 rfl rfl ?_
  refine wLin 23 i68_22 rfl rfl ?_
  refine wLin 24 i68_23 rfl rfl ?_
  refine jCall 27 [.ref 56, .ref 17, .int 2, .int 2] [] [(0, .ref 56), (1, .ref 17), (2, .int 2), (3, .int 2)] i68_24 rfl (xlk0 l68_47) (Or.inl rfl) m70 rfl rfl (Nat.le_of_ble_eq_true rfl) (Nat.le_of_ble_eq_true rfl) (Nat.le_of_ble_eq_true rfl) rfl rfl rfl ?_
  refine wLan 1 i70_0 rfl rfl ?_
  refine wGet 4 (.ref 57) i70_1 f70_9 rfl rfl rfl ?_
  refine wLin 5 i70_4 rfl rfl ?_
  refine wLan 6 i70_5 rfl rfl ?_
  refine wGet 9 (.ref 18) i70_6 f70_9 rfl rfl rfl ?_
  refine wLin 10 i70_9 rfl rfl ?_
  refine wIal 11 i70_10 rfl (by decide) rfl ?_
  refine tTop (v := 0) rfl ?_
  refine wIasS 12 i70_11 rfl (by decide) rfl rfl ?_
  refine wLan 13 i70_12 rfl rfl ?_
  refine wLan 14 i70_13 rfl rfl ?_
  refine wLin 15 i70_14 rfl rfl ?_
  refine wKb 17 24 i70_15 (by decide) rfl ?_
  refine wA 18 i70_17 rfl rfl rfl ?_
  refine tTop (v := 48) (by decide) ?_
  refine wLin 19 i70_18 rfl rfl ?_
  refine wKb 21 24 i70_19 (by decide) rfl ?_
  refine wA 22 i70_21 rfl rfl rfl ?_
  refine tTop (v := 48) (by decide) ?_
  refine wLan 23 i70_22 rfl rfl ?_
  refine wGet 26 (.ref 57) i70_23 f70_9 rfl rfl rfl ?_
  refine wLin 27 i70_26 rfl rfl ?_
  refine wIal 28 i70_27 rfl (by decide) rfl ?_
  refine tTop (v := 0) rfl ?_
  refine jCall 31 [.ref 56, .ref 17, .int 48, .int 48, .int 0] [] [(0, .ref 56), (1, .ref 17), (2, .int 48), (3, .int 48), (4, .int 0)] i70_28 rfl (xlk0 l70_43) (Or.inl rfl) m69 rfl rfl (Nat.le_of_ble_eq_true rfl) (Nat.le_of_ble_eq_true rfl) (Nat.le_of_ble_eq_true rfl) rfl rfl rfl ?_
  refine wLan 1 i69_0 rfl rfl ?_
  refine wGet 4 (.ref 19) i69_1 f69_15 rfl rfl rfl ?_
  refine wLin 5 i69_4 rfl rfl ?_
  refine wLan 6 i69_5 rfl rfl ?_
  refine wGet 9 (.ref 58) i69_6 f69_15 rfl rfl rfl ?_
  refine wLin 10 i69_9 rfl rfl ?_
  refine wLi 12 i69_10 rfl rfl ?_
  refine wCopy0i 15 i69_12 l69_51 rfl rfl (by decide) (by decide) (by decide) (by decide) (by decide) rfl ?_
  refine wLan 16 i69_15 rfl rfl ?_
  refine wGet 19 (.ref 20) i69_16 f69_18 rfl rfl rfl ?_
  refine wLin 20 i69_19 rfl rfl ?_
  refine wLan 21 i69_20 rfl rfl ?_
  refine wGet 24 (.ref 59) i69_21 f69_18 rfl rfl rfl ?_
  refine wLin 25 i69_24 rfl rfl ?_
  refine wLi 27 i69_25 rfl rfl ?_
  refine wCopy0i 30 i69_27 l69_51 rfl rfl (by decide) (by decide) (by decide) (by decide) (by decide) rfl ?_
  refine wLan 31 i69_30 rfl rfl ?_
  refine wGet 34 (.ref 21) i69_31 f69_21 rfl rfl rfl ?_
  refine wLin 35 i69_34 rfl rfl ?_
  refine wLan 36 i69_35 rfl rfl ?_
  refine wGet 39 (.ref 60) i69_36 f69_21 rfl rfl rfl ?_
  refine wLin 40 i69_39 rfl rfl ?_
  refine wLi 42 i69_40 rfl rfl ?_
  refine wCopy0i 45 i69_42 l69_51 rfl rfl (by decide) (by decide) (by decide) (by decide) (by decide) rfl ?_
  refine wLan 46 i69_45 rfl rfl ?_
  refine wGet 49 (.ref 22) i69_46 f69_24 rfl rfl rfl ?_
  refine wLin 50 i69_49 rfl rfl ?_
  refine wLan 51 i69_50 rfl rfl ?_
  refine wGet 54 (.ref 61) i69_51 f69_24 rfl rfl rfl ?_
  refine wLin 55 i69_54 rfl rfl ?_
  refine wLi 57 i69_55 rfl rfl ?_
  refine wCopy0i 60 i69_57 l69_51 rfl rfl (by decide) (by decide) (by decide) (by decide) (by decide) rfl ?_
  refine wLan 61 i69_60 rfl rfl ?_
  refine wGet 64 (.ref 23) i69_61 f69_27 rfl rfl rfl ?_
  refine wLin 65 i69_64 rfl rfl ?_
  refine wLan 66 i69_65 rfl rfl ?_
  refine wGet 69 (.ref 62) i69_66 f69_27 rfl rfl rfl ?_
  refine wLin 70 i69_69 rfl rfl ?_
  refine wLi 72 i69_70 rfl rfl ?_
  refine wCopy0i 75 i69_72 l69_51 rfl rfl (by decide) (by decide) (by decide) (by decide) (by decide) rfl ?_
  refine wLan 76 i69_75 rfl rfl ?_
  refine wGet 79 (.ref 24) i69_76 f69_30 rfl rfl rfl ?_
  refine wLin 80 i69_79 rfl rfl ?_
  refine wLan 81 i69_80 rfl rfl ?_
  refine wGet 84 (.ref 63) i69_81 f69_30 rfl rfl rfl ?_
  refine wLin 85 i69_84 rfl rfl ?_
  refine wLi 87 i69_85 rfl rfl ?_
  refine wCopy0i 90 i69_87 l69_51 rfl rfl (by decide) (by decide) (by decide) (by decide) (by decide) rfl ?_
  refine wLan 91 i69_90 rfl rfl ?_
  refine wGet 94 (.ref 25) i69_91 f69_33 rfl rfl rfl ?_
  refine wLin 95 i69_94 rfl rfl ?_
  refine wKb 97 8 i69_95 (by decide) rfl ?_
  refine wA 98 i69_97 rfl rfl rfl ?_
  refine tTop (v := 384) (by decide) ?_
  refine wLan 99 i69_98 rfl rfl ?_
  refine wGet 102 (.ref 64) i69_99 f69_33 rfl rfl rfl ?_
  refine wLin 103 i69_102 rfl rfl ?_
  refine wKb 105 8 i69_103 (by decide) rfl ?_
  refine wA 106 i69_105 rfl rfl rfl ?_
  refine tTop (v := 384) (by decide) ?_
  refine wLi 108 i69_106 rfl rfl ?_
  refine wKb 110 8 i69_108 (by decide) rfl ?_
  refine wA 111 i69_110 rfl rfl rfl ?_
  refine tTop (v := 0) (by decide) ?_
  refine wCopy0l 114 i69_111 l69_51 rfl rfl (by decide) (by decide) (by decide) (by decide) (by decide) rfl ?_
  refine jR0 i69_114 m69 ?_
  refine jR0 i70_31 m70 ?_
  refine wInc 30 [(2, .int 3), (0, .ref 56), (1, .ref 17)] 3 i68_27 m68 (by decide) rfl (by decide) rfl rfl ?_
  refine wGo 2 i68_30 rfl ?_
  refine wLin 3 i68_2 rfl rfl ?_
  refine wLan 4 i68_3 rfl rfl ?_
  refine wGet 7 (.ref 57) i68_4 f68_9 rfl rfl rfl ?_
  refine wAln 8 (n := 8) i68_7 rfl rfl (by decide) rfl ?_
  refine wCF 33 11 i68_8 rfl (by decide) rfl ?_
  refine wLin 12 i68_11 rfl rfl ?_
  refine wLan 13 i68_12 rfl rfl ?_
  refine wGet 16 (.ref 18) i68_13 f68_9 rfl rfl rfl ?_
  refine wAln 17 (n := 8) i68_16 rfl rfl (by decide) rfl ?_
  refine wCF 33 20 i68_17 rfl (by decide) rfl ?_
  refine wLan 21 i68_20 rfl rfl ?_
  refine wLan 22 i68_21 rfl rfl ?_
  refine wLin 23 i68_22 rfl rfl ?_
  refine wLin 24 i68_23 rfl rfl ?_
  refine jCall 27 [.ref 56, .ref 17, .int 3, .int 3] [] [(0, .ref 56), (1, .ref 17), (2, .int 3), (3, .int 3)] i68_24 rfl (xlk0 l68_47) (Or.inl rfl) m70 rfl rfl (Nat.le_of_ble_eq_true rfl) (Nat.le_of_ble_eq_true rfl) (Nat.le_of_ble_eq_true rfl) rfl rfl rfl ?_
  refine wLan 1 i70_0 rfl rfl ?_
  refine wGet 4 (.ref 57) i70_1 f70_9 rfl rfl rfl ?_
  refine wLin 5 i70_4 rfl rfl ?_
  refine wLan 6 i70_5 rfl rfl ?_
  refine wGet 9 (.ref 18) i70_6 f70_9 rfl rfl rfl ?_
  refine wLin 10 i70_9 rfl rfl ?_
  refine wIal 11 i70_10 rfl (by decide) rfl ?_
  refine tTop (v := 0) rfl ?_
  refine wIasS 12 i70_11 rfl (by decide) rfl rfl ?_
  refine wLan 13 i70_12 rfl rfl ?_
  refine wLan 14 i70_13 rfl rfl ?_
  refine wLin 15 i70_14 rfl rfl ?_
  refine wKb 17 24 i70_15 (by decide) rfl ?_
  refine wA 18 i70_17 rfl rfl rfl ?_
  refine tTop (v := 72) (by decide) ?_
  refine wLin 19 i70_18 rfl rfl ?_
  refine wKb 21 24 i70_19 (by decide) rfl ?_
  refine wA 22 i70_21 rfl rfl rfl ?_
  refine tTop (v := 72) (by decide) ?_
  refine wLan 23 i70_22 rfl rfl ?_
  refine wGet 26 (.ref 57) i70_23 f70_9 rfl rfl rfl ?_
  refine wLin 27 i70_26 rfl rfl ?_
  refine wIal 28 i70_27 rfl (by decide) rfl ?_
  refine tTop (v := 0) rfl ?_
  refine jCall 31 [.ref 56, .ref 17, .int 72, .int 72, .int 0] [] [(0, .ref 56), (1, .ref 17), (2, .int 72), (3, .int 72), (4, .int 0)] i70_28 rfl (xlk0 l70_43) (Or.inl rfl) m69 rfl rfl (Nat.le_of_ble_eq_true rfl) (Nat.le_of_ble_eq_true rfl) (Nat.le_of_ble_eq_true rfl) rfl rfl rfl ?_
  refine wLan 1 i69_0 rfl rfl ?_
  refine wGet 4 (.ref 19) i69_1 f69_15 rfl rfl rfl ?_
  refine wLin 5 i69_4 rfl rfl ?_
  refine wLan 6 i69_5 rfl rfl ?_
  refine wGet 9 (.ref 58) i69_6 f69_15 rfl rfl rfl ?_
  refine wLin 10 i69_9 rfl rfl ?_
  refine wLi 12 i69_10 rfl rfl ?_
  refine wCopy0i 15 i69_12 l69_51 rfl rfl (by decide) (by decide) (by decide) (by decide) (by decide) rfl ?_
  refine wLan 16 i69_15 rfl rfl ?_
  refine wGet 19 (.ref 20) i69_16 f69_18 rfl rfl rfl ?_
  refine wLin 20 i69_19 rfl rfl ?_
  refine wLan 21 i69_20 rfl rfl ?_
  refine wGet 24 (.ref 59) i69_21 f69_18 rfl rfl rfl ?_
  refine wLin 25 i69_24 rfl rfl ?_
  refine wLi 27 i69_25 rfl rfl ?_
  refine wCopy0i 30 i69_27 l69_51 rfl rfl (by decide) (by decide) (by decide) (by decide) (by decide) rfl ?_
  refine wLan 31 i69_30 rfl rfl ?_
  refine wGet 34 (.ref 21) i69_31 f69_21 rfl rfl rfl ?_
  refine wLin 35 i69_34 rfl rfl ?_
  refine wLan 36 i69_35 rfl rfl ?_
  refine wGet 39 (.ref 60) i69_36 f69_21 rfl rfl rfl ?_
  refine wLin 40 i69_39 rfl rfl ?_
  refine wLi 42 i69_40 rfl rfl ?_
  refine wCopy0i 45 i69_42 l69_51 rfl rfl (by decide) (by decide) (by decide) (by decide) (by decide) rfl ?_
  refine wLan 46 i69_45 rfl rfl ?_
  refine wGet 49 (.ref 22) i69_46 f69_24 rfl rfl rfl ?_
  refine wLin 50 i69_49 rfl rfl ?_
  refine wLan 51 i69_50 rfl rfl ?_
  refine wGet 54 (.ref 61) i69_51 f69_24 rfl rfl rfl ?_
  refine wLin 55 i69_54 rfl rfl ?_
  refine wLi 57 i69_55 rfl rfl ?_
  refine wCopy0i 60 i69_57 l69_51 rfl rfl (by decide) (by decide) (by decide) (by decide) (by decide) rfl ?_
  refine wLan 61 i69_60 rfl rfl ?_
  refine wGet 64 (.ref 23) i69_61 f69_27 rfl rfl rfl ?_
  refine wLin 65 i69_64 rfl rfl ?_
  refine wLan 66 i69_65 rfl rfl ?_
  refine wGet 69 (.ref 62) i69_66 f69_27 rfl rfl rfl ?_
  refine wLin 70 i69_69 rfl rfl ?_
  refine wLi 72 i69_70 rfl rfl ?_
  refine wCopy0i 75 i69_72 l69_51 rfl rfl (by decide) (by decide) (by decide) (by decide) (by decide) rfl ?_
  refine wLan 76 i69_75 rfl rfl ?_
  refine wGet 79 (.ref 24) i69_76 f69_30 rfl rfl rfl ?_
  refine wLin 80 i69_79 rfl rfl ?_
  refine wLan 81 i69_80 rfl rfl ?_
  refine wGet 84 (.ref 63) i69_81 f69_30 rfl rfl rfl ?_
  refine wLin 85 i69_84 rfl rfl ?_
  refine wLi 87 i69_85 rfl rfl ?_
  refine wCopy0i 90 i69_87 l69_51 rfl rfl (by decide) (by decide) (by decide) (by decide) (by decide) rfl ?_
  refine wLan 91 i69_90 rfl rfl ?_
  refine wGet 94 (.ref 25) i69_91 f69_33 rfl rfl rfl ?_
  refine wLin 95 i69_94 rfl rfl ?_
  refine wKb 97 8 i69_95 (by decide) rfl ?_
  refine wA 98 i69_97 rfl rfl rfl ?_
  refine tTop (v := 576) (by decide) ?_
  refine wLan 99 i69_98 rfl rfl ?_
  refine wGet 102 (.ref 64) i69_99 f69_33 rfl rfl rfl ?_
  refine wLin 103 i69_102 rfl rfl ?_
  refine wKb 105 8 i69_103 (by decide) rfl ?_
  refine wA 106 i69_105 rfl rfl rfl ?_
  refine tTop (v := 576) (by decide) ?_
  refine wLi 108 i69_106 rfl rfl ?_
  refine wKb 110 8 i69_108 (by decide) rfl ?_
  refine wA 111 i69_110 rfl rfl rfl ?_
  refine tTop (v := 0) (by decide) ?_
  refine wCopy0l 114 i69_111 l69_51 rfl rfl (by decide) (by decide) (by decide) (by decide) (by decide) rfl ?_
  refine jR0 i69_114 m69 ?_
  refine jR0 i70_31 m70 ?_
  refine wInc 30 [(2, .int 4), (0, .ref 56), (1, .ref 17)] 4 i68_27 m68 (by decide) rfl (by decide) rfl rfl ?_
  refine wGo 2 i68_30 rfl ?_
  refine wLin 3 i68_2 rfl rfl ?_
  refine wLan 4 i68_3 rfl rfl ?_
  refine wGet 7 (.ref 57) i68_4 f68_9 rfl rfl rfl ?_
  refine wAln 8 (n := 8) i68_7 rfl rfl (by decide) rfl ?_
  refine wCF 33 11 i68_8 rfl (by decide) rfl ?_
  refine wLin 12 i68_11 rfl rfl ?_
  refine wLan 13 i68_12 rfl rfl ?_
  refine wGet 16 (.ref 18) i68_13 f68_9 rfl rfl rfl ?_
  refine wAln 17 (n := 8) i68_16 rfl rfl (by decide) rfl ?_
  refine wCF 33 20 i68_17 rfl (by decide) rfl ?_
  refine wLan 21 i68_20 rfl rfl ?_
  refine wLan 22 i68_21 rfl rfl ?_
  refine wLin 23 i68_22 rfl rfl ?_
  refine wLin 24 i68_23 rfl rfl ?_
  refine jCall 27 [.ref 56, .ref 17, .int 4, .int 4] [] [(0, .ref 56), (1, .ref 17), (2, .int 4), (3, .int 4)] i68_24 rfl (xlk0 l68_47) (Or.inl rfl) m70 rfl rfl (Nat.le_of_ble_eq_true rfl) (Nat.le_of_ble_eq_true rfl) (Nat.le_of_ble_eq_true rfl) rfl rfl rfl ?_
  refine wLan 1 i70_0 rfl rfl ?_
  refine wGet 4 (.ref 57) i70_1 f70_9 rfl rfl rfl ?_
  refine wLin 5 i70_4 rfl rfl ?_
  refine wLan 6 i70_5 rfl rfl ?_
  refine wGet 9 (.ref 18) i70_6 f70_9 rfl rfl rfl ?_
  refine wLin 10 i70_9 rfl rfl ?_
  refine wIal 11 i70_10 rfl (by decide) rfl ?_
  refine tTop (v := 0) rfl ?_
  refine wIasS 12 i70_11 rfl (by decide) rfl rfl ?_
  refine wLan 13 i70_12 rfl rfl ?_
  refine wLan 14 i70_13 rfl rfl ?_
  refine wLin 15 i70_14 rfl rfl ?_
  refine wKb 17 24 i70_15 (by decide) rfl ?_
  refine wA 18 i70_17 rfl rfl rfl ?_
  refine tTop (v := 96) (by decide) ?_
  refine wLin 19 i70_18 rfl rfl ?_
  refine wKb 21 24 i70_19 (by decide) rfl ?_
  refine wA 22 i70_21 rfl rfl rfl ?_
  refine tTop (v := 96) (by decide) ?_
  refine wLan 23 i70_22 rfl rfl ?_
  refine wGet 26 (.ref 57) i70_23 f70_9 rfl rfl rfl ?_
  refine wLin 27 i70_26 rfl rfl ?_
  refine wIal 28 i70_27 rfl (by decide) rfl ?_
  refine tTop (v := 0) rfl ?_
  refine jCall 31 [.ref 56, .ref 17, .int 96, .int 96, .int 0] [] [(0, .ref 56), (1, .ref 17), (2, .int 96), (3, .int 96), (4, .int 0)] i70_28 rfl (xlk0 l70_43) (Or.inl rfl) m69 rfl rfl (Nat.le_of_ble_eq_true rfl) (Nat.le_of_ble_eq_true rfl) (Nat.le_of_ble_eq_true rfl) rfl rfl rfl ?_
  refine wLan 1 i69_0 rfl rfl ?_
  refine wGet 4 (.ref 19) i69_1 f69_15 rfl rfl rfl ?_
  refine wLin 5 i69_4 rfl rfl ?_
  refine wLan 6 i69_5 rfl rfl ?_
  refine wGet 9 (.ref 58) i69_6 f69_15 rfl rfl rfl ?_
  refine wLin 10 i69_9 rfl rfl ?_
  refine wLi 12 i69_10 rfl rfl ?_
  refine wCopy0i 15 i69_12 l69_51 rfl rfl (by decide) (by decide) (by decide) (by decide) (by decide) rfl ?_
  refine wLan 16 i69_15 rfl rfl ?_
  refine wGet 19 (.ref 20) i69_16 f69_18 rfl rfl rfl ?_
  refine wLin 20 i69_19 rfl rfl ?_
  refine wLan 21 i69_20 rfl rfl ?_
  refine wGet 24 (.ref 59) i69_21 f69_18 rfl rfl rfl ?_
  refine wLin 25 i69_24 rfl rfl ?_
  refine wLi 27 i69_25 rfl rfl ?_
  refine wCopy0i 30 i69_27 l69_51 rfl rfl (by decide) (by decide) (by decide) (by decide) (by decide) rfl ?_
  refine wLan 31 i69_30 rfl rfl ?_
  refine wGet 34 (.ref 21) i69_31 f69_21 rfl rfl rfl ?_
  refine wLin 35 i69_34 rfl rfl ?_
  refine wLan 36 i69_35 rfl rfl ?_
  refine wGet 39 (.ref 60) i69_36 f69_21 rfl rfl rfl ?_
  refine wLin 40 i69_39 rfl rfl ?_
  refine wLi 42 i69_40 rfl rfl ?_
  refine wCopy0i 45 i69_42 l69_51 rfl rfl (by decide) (by decide) (by decide) (by decide) (by decide) rfl ?_
  refine wLan 46 i69_45 rfl rfl ?_
  refine wGet 49 (.ref 22) i69_46 f69_24 rfl rfl rfl ?_
  refine wLin 50 i69_49 rfl rfl ?_
  refine wLan 51 i69_50 rfl rfl ?_
  refine wGet 54 (.ref 61) i69_51 f69_24 rfl rfl rfl ?_
  refine wLin 55 i69_54 rfl rfl ?_
  refine wLi 57 i69_55 rfl rfl ?_
  refine wCopy0i 60 i69_57 l69_51 rfl rfl (by decide) (by decide) (by decide) (by decide) (by decide) rfl ?_
  refine wLan 61 i69_60 rfl rfl ?_
  refine wGet 64 (.ref 23) i69_61 f69_27 rfl rfl rfl ?_
  refine wLin 65 i69_64 rfl rfl ?_
  refine wLan 66 i69_65 rfl rfl ?_
  refine wGet 69 (.ref 62) i69_66 f69_27 rfl rfl rfl ?_
  refine wLin 70 i69_69 rfl rfl ?_
  refine wLi 72 i69_70 rfl rfl ?_
  refine wCopy0i 75 i69_72 l69_51 rfl rfl (by decide) (by decide) (by decide) (by decide) (by decide) rfl ?_
  refine wLan 76 i69_75 rfl rfl ?_
  refine wGet 79 (.ref 24) i69_76 f69_30 rfl rfl rfl ?_
  refine wLin 80 i69_79 rfl rfl ?_
  refine wLan 81 i69_80 rfl rfl ?_
  refine wGet 84 (.ref 63) i69_81 f69_30 rfl rfl rfl ?_
  refine wLin 85 i69_84 rfl rfl ?_
  refine wLi 87 i69_85 rfl rfl ?_
  refine wCopy0i 90 i69_87 l69_51 rfl rfl (by decide) (by decide) (by decide) (by decide) (by decide) rfl ?_
  refine wLan 91 i69_90 rfl rfl ?_
  refine wGet 94 (.ref 25) i69_91 f69_33 rfl rfl rfl ?_
  refine wLin 95 i69_94 rfl rfl ?_
  refine wKb 97 8 i69_95 (by decide) rfl ?_
  refine wA 98 i69_97 rfl rfl rfl ?_
  refine tTop (v := 768) (by decide) ?_
  refine wLan 99 i69_98 rfl rfl ?_
  refine wGet 102 (.ref 64) i69_99 f69_33 rfl rfl rfl ?_
  refine wLin 103 i69_102 rfl rfl ?_
  refine wKb 105 8 i69_103 (by decide) rfl ?_
  refine wA 106 i69_105 rfl rfl rfl ?_
  refine tTop (v := 768) (by decide) ?_
  refine wLi 108 i69_106 rfl rfl ?_
  refine wKb 110 8 i69_108 (by decide) rfl ?_
  refine wA 111 i69_110 rfl rfl rfl ?_
  refine tTop (v := 0) (by decide) ?_
  refine wCopy0l 114 i69_111 l69_51 rfl rfl (by decide) (by decide) (by decide) (by decide) (by decide) rfl ?_
  refine jR0 i69_114 m69 ?_
  refine jR0 i70_31 m70 ?_
  refine wInc 30 [(2, .int 5), (0, .ref 56), (1, .ref 17)] 5 i68_27 m68 (by decide) rfl (by decide) rfl rfl ?_
  refine wGo 2 i68_30 rfl ?_
  refine wLin 3 i68_2 rfl rfl ?_
  refine wLan 4 i68_3 rfl rfl ?_
  refine wGet 7 (.ref 57) i68_4 f68_9 rfl rfl rfl ?_
  refine wAln 8 (n := 8) i68_7 rfl rfl (by decide) rfl ?_
  refine wCF 33 11 i68_8 rfl (by decide) rfl ?_
  refine wLin 12 i68_11 rfl rfl ?_
  refine wLan 13 i68_12 rfl rfl ?_
  refine wGet 16 (.ref 18) i68_13 f68_9 rfl rfl rfl ?_
  refine wAln 17 (n := 8) i68_16 rfl rfl (by decide) rfl ?_
  refine wCF 33 20 i68_17 rfl (by decide) rfl ?_
  refine wLan 21 i68_20 rfl rfl ?_
  refine wLan 22 i68_21 rfl rfl ?_
  refine wLin 23 i68_22 rfl rfl ?_
  refine wLin 24 i68_23 rfl rfl ?_
  refine jCall 27 [.ref 56, .ref 17, .int 5, .int 5] [] [(0, .ref 56), (1, .ref 17), (2, .int 5), (3, .int 5)] i68_24 rfl (xlk0 l68_47) (Or.inl rfl) m70 rfl rfl (Nat.le_of_ble_eq_true rfl) (Nat.le_of_ble_eq_true rfl) (Nat.le_of_ble_eq_true rfl) rfl rfl rfl ?_
  refine wLan 1 i70_0 rfl rfl ?_
  refine wGet 4 (.ref 57) i70_1 f70_9 rfl rfl rfl ?_
  refine wLin 5 i70_4 rfl rfl ?_
  refine wLan 6 i70_5 rfl rfl ?_
  refine wGet 9 (.ref 18) i70_6 f70_9 rfl rfl rfl ?_
  refine wLin 10 i70_9 rfl rfl ?_
  refine wIal 11 i70_10 rfl (by decide) rfl ?_
  refine tTop (v := 0) rfl ?_
  refine wIasS 12 i70_11 rfl (by decide) rfl rfl ?_
  refine wLan 13 i70_12 rfl rfl ?_
  refine wLan 14 i70_13 rfl rfl ?_
  refine wLin 15 i70_14 rfl rfl ?_
  refine wKb 17 24 i70_15 (by decide) rfl ?_
  refine wA 18 i70_17 rfl rfl rfl ?_
  refine tTop (v := 120) (by decide) ?_
  refine wLin 19 i70_18 rfl rfl ?_
  refine wKb 21 24 i70_19 (by decide) rfl ?_
  refine wA 22 i70_21 rfl rfl rfl ?_
  refine tTop (v := 120) (by decide) ?_
  refine wLan 23 i70_22 rfl rfl ?_
  refine wGet 26 (.ref 57) i70_23 f70_9 rfl rfl rfl ?_
  refine wLin 27 i70_26 rfl rfl ?_
  refine wIal 28 i70_27 rfl (by decide) rfl ?_
  refine tTop (v := 0) rfl ?_
  refine jCall 31 [.ref 56, .ref 17, .int 120, .int 120, .int 0] [] [(0, .ref 56), (1, .ref 17), (2, .int 120), (3, .int 120), (4, .int 0)] i70_28 rfl (xlk0 l70_43) (Or.inl rfl) m69 rfl rfl (Nat.le_of_ble_eq_true rfl) (Nat.le_of_ble_eq_true rfl) (Nat.le_of_ble_eq_true rfl) rfl rfl rfl ?_
  refine wLan 1 i69_0 rfl rfl ?_
  refine wGet 4 (.ref 19) i69_1 f69_15 rfl rfl rfl ?_
  refine wLin 5 i69_4 rfl rfl ?_
  refine wLan 6 i69_5 rfl rfl ?_
  refine wGet 9 (.ref 58) i69_6 f69_15 rfl rfl rfl ?_
  refine wLin 10 i69_9 rfl rfl ?_
  refine wLi 12 i69_10 rfl rfl ?_
  refine wCopy0i 15 i69_12 l69_51 rfl rfl (by decide) (by decide) (by decide) (by decide) (by decide) rfl ?_
  refine wLan 16 i69_15 rfl rfl ?_
  refine wGet 19 (.ref 20) i69_16 f69_18 rfl rfl rfl ?_
  refine wLin 20 i69_19 rfl rfl ?_
  refine wLan 21 i69_20 rfl rfl ?_
  refine wGet 24 (.ref 59) i69_21 f69_18 rfl rfl rfl ?_
  refine wLin 25 i69_24 rfl rfl ?_
  refine wLi 27 i69_25 rfl rfl ?_
  refine wCopy0i 30 i69_27 l69_51 rfl rfl (by decide) (by decide) (by decide) (by decide) (by decide) rfl ?_
  refine wLan 31 i69_30 rfl rfl ?_
  refine wGet 34 (.ref 21) i69_31 f69_21 rfl rfl rfl ?_
  refine wLin 35 i69_34 rfl rfl ?_
  refine wLan 36 i69_35 rfl rfl ?_
  refine wGet 39 (.ref 60) i69_36 f69_21 rfl rfl rfl ?_
  refine wLin 40 i69_39 rfl rfl ?_
  refine wLi 42 i69_40 rfl rfl ?_
  refine wCopy0i 45 i69_42 l69_51 rfl rfl (by decide) (by decide) (by decide) (by decide) (by decide) rfl ?_
  refine wLan 46 i69_45 rfl rfl ?_
  refine wGet 49 (.ref 22) i69_46 f69_24 rfl rfl rfl ?_
  refine wLin 50 i69_49 rfl rfl ?_
  refine wLan 51 i69_50 rfl rfl ?_
  refine wGet 54 (.ref 61) i69_51 f69_24 rfl rfl rfl ?_
  refine wLin 55 i69_54 rfl rfl ?_
  refine wLi 57 i69_55 rfl rfl ?_
  refine wCopy0i 60 i69_57 l69_51 rfl rfl (by decide) (by decide) (by decide) (by decide) (by decide) rfl ?_
  refine wLan 61 i69_60 rfl rfl ?_
  refine wGet 64 (.ref 23) i69_61 f69_27 rfl rfl rfl ?_
  refine wLin 65 i69_64 rfl rfl ?_
  refine wLan 66 i69_65 rfl rfl ?_
  refine wGet 69 (.ref 62) i69_66 f69_27 rfl rfl rfl ?_
  refine wLin 70 i69_69 rfl rfl ?_
  refine wLi 72 i69_70 rfl rfl ?_
  refine wCopy0i 75 i69_72 l69_51 rfl rfl (by decide) (by decide) (by decide) (by decide) (by decide) rfl ?_
  refine wLan 76 i69_75 rfl rfl ?_
  refine wGet 79 (.ref 24) i69_76 f69_30 rfl rfl rfl ?_
  refine wLin 80 i69_79 rfl rfl ?_
  refine wLan 81 i69_80 rfl rfl ?_
  refine wGet 84 (.ref 63) i69_81 f69_30 rfl rfl rfl ?_
  refine wLin 85 i69_84 rfl rfl ?_
  refine wLi 87 i69_85 rfl rfl ?_
  refine wCopy0i 90 i69_87 l69_51 rfl rfl (by decide) (by decide) (by decide) (by decide) (by decide) rfl ?_
  refine wLan 91 i69_90 rfl rfl ?_
  refine wGet 94 (.ref 25) i69_91 f69_33 rfl rfl rfl ?_
  refine wLin 95 i69_94 rfl rfl ?_
  refine wKb 97 8 i69_95 (by decide) rfl ?_
  refine wA 98 i69_97 rfl rfl rfl ?_
  refine tTop (v := 960) (by decide) ?_
  refine wLan 99 i69_98 rfl rfl ?_
  refine wGet 102 (.ref 64) i69_99 f69_33 rfl rfl rfl ?_
  refine wLin 103 i69_102 rfl rfl ?_
  refine wKb 105 8 i69_103 (by decide) rfl ?_
  refine wA 106 i69_105 rfl rfl rfl ?_
  refine tTop (v := 960) (by decide) ?_
  refine wLi 108 i69_106 rfl rfl ?_
  refine wKb 110 8 i69_108 (by decide) rfl ?_
  refine wA 111 i69_110 rfl rfl rfl ?_
  refine tTop (v := 0) (by decide) ?_
  refine wCopy0l 114 i69_111 l69_51 rfl rfl (by decide) (by decide) (by decide) (by decide) (by decide) rfl ?_
  refine jR0 i69_114 m69 ?_
  refine jR0 i70_31 m70 ?_
  refine wInc 30 [(2, .int 6), (0, .ref 56), (1, .ref 17)] 6 i68_27 m68 (by decide) rfl (by decide) rfl rfl ?_
  refine wGo 2 i68_30 rfl ?_
  refine wLin 3 i68_2 rfl rfl ?_
  refine wLan 4 i68_3 rfl rfl ?_
  refine wGet 7 (.ref 57) i68_4 f68_9 rfl rfl rfl ?_
  refine wAln 8 (n := 8) i68_7 rfl rfl (by decide) rfl ?_
  refine wCF 33 11 i68_8 rfl (by decide) rfl ?_
  refine wLin 12 i68_11 rfl rfl ?_
  refine wLan 13 i68_12 rfl rfl ?_
  refine wGet 16 (.ref 18) i68_13 f68_9 rfl rfl rfl ?_
  refine wAln 17 (n := 8) i68_16 rfl rfl (by decide) rfl ?_
  refine wCF 33 20 i68_17 rfl (by decide) rfl ?_
  refine wLan 21 i68_20 rfl rfl ?_
  refine wLan 22 i68_21 rfl rfl ?_
  refine wLin 23 i68_22 rfl rfl ?_
  refine wLin 24 i68_23 rfl rfl ?_
  refine jCall 27 [.ref 56, .ref 17, .int 6, .int 6] [] [(0, .ref 56), (1, .ref 17), (2, .int 6), (3, .int 6)] i68_24 rfl (xlk0 l68_47) (Or.inl rfl) m70 rfl rfl (Nat.le_of_ble_eq_true rfl) (Nat.le_of_ble_eq_true rfl) (Nat.le_of_ble_eq_true rfl) rfl rfl rfl ?_
  refine wLan 1 i70_0 rfl rfl ?_
  refine wGet 4 (.ref 57) i70_1 f70_9 rfl rfl rfl ?_
  refine wLin 5 i70_4 rfl rfl ?_
  refine wLan 6 i70_5 rfl rfl ?_
  refine wGet 9 (.ref 18) i70_6 f70_9 rfl rfl rfl ?_
  refine wLin 10 i70_9 rfl rfl ?_
  refine wIal 11 i70_10 rfl (by decide) rfl ?_
  refine tTop (v := 0) rfl ?_
  refine wIasS 12 i70_11 rfl (by decide) rfl rfl ?_
  refine wLan 13 i70_12 rfl rfl ?_
  refine wLan 14 i70_13 rfl rfl ?_
  refine wLin 15 i70_14 rfl rfl ?_
  refine wKb 17 24 i70_15 (by decide) rfl ?_
  refine wA 18 i70_17 rfl rfl rfl ?_
  refine tTop (v := 144) (by decide) ?_
  refine wLin 19 i70_18 rfl rfl ?_
  refine wKb 21 24 i70_19 (by decide) rfl ?_
  refine wA 22 i70_21 rfl rfl rfl ?_
  refine tTop (v := 144) (by decide) ?_
  refine wLan 23 i70_22 rfl rfl ?_
  refine wGet 26 (.ref 57) i70_23 f70_9 rfl rfl rfl ?_
  refine wLin 27 i70_26 rfl rfl ?_
  refine wIal 28 i70_27 rfl (by decide) rfl ?_
  refine tTop (v := 0) rfl ?_
  refine jCall 31 [.ref 56, .ref 17, .int 144, .int 144, .int 0] [] [(0, .ref 56), (1, .ref 17), (2, .int 144), (3, .int 144), (4, .int 0)] i70_28 rfl (xlk0 l70_43) (Or.inl rfl) m69 rfl rfl (Nat.le_of_ble_eq_true rfl) (Nat.le_of_ble_eq_true rfl) (Nat.le_of_ble_eq_true rfl) rfl rfl rfl ?_
  refine wLan 1 i69_0 rfl rfl ?_
  refine wGet 4 (.ref 19) i69_1 f69_15 rfl rfl rfl ?_
  refine wLin 5 i69_4 rfl rfl ?_
  refine wLan 6 i69_5 rfl rfl ?_
  refine wGet 9 (.ref 58) i69_6 f69_15 rfl rfl rfl ?_
  refine wLin 10 i69_9 rfl rfl ?_
  refine wLi 12 i69_10 rfl rfl ?_
  refine wCopy0i 15 i69_12 l69_51 rfl rfl (by decide) (by decide) (by decide) (by decide) (by decide) rfl ?_
  refine wLan 16 i69_15 rfl rfl ?_
  refine wGet 19 (.ref 20) i69_16 f69_18 rfl rfl rfl ?_
  refine wLin 20 i69_19 rfl rfl ?_
  refine wLan 21 i69_20 rfl rfl ?_
  refine wGet 24 (.ref 59) i69_21 f69_18 rfl rfl rfl ?_
  refine wLin 25 i69_24 rfl rfl ?_
  refine wLi 27 i69_25 rfl rfl ?_
  refine wCopy0i 30 i69_27 l69_51 rfl rfl (by decide) (by decide) (by decide) (by decide) (by decide) rfl ?_
  refine wLan 31 i69_30 rfl rfl ?_
  refine wGet 34 (.ref 21) i69_31 f69_21 rfl rfl rfl ?_
  refine wLin 35 i69_34 rfl rfl ?_
  refine wLan 36 i69_35 rfl rfl ?_
  refine wGet 39 (.ref 60) i69_36 f69_21 rfl rfl rfl ?_
  refine wLin 40 i69_39 rfl rfl ?_
  refine wLi 42 i69_40 rfl rfl ?_
  refine wCopy0i 45 i69_42 l69_51 rfl rfl (by decide) (by decide) (by decide) (by decide) (by decide) rfl ?_
  refine wLan 46 i69_45 rfl rfl ?_
  refine wGet 49 (.ref 22) i69_46 f69_24 rfl rfl rfl ?_
  refine wLin 50 i69_49 rfl rfl ?_
  refine wLan 51 i69_50 rfl rfl ?_
  refine wGet 54 (.ref 61) i69_51 f69_24 rfl rfl rfl ?_
  refine wLin 55 i69_54 rfl rfl ?_
  refine wLi 57 i69_55 rfl rfl ?_
  refine wCopy0i 60 i69_57 l69_51 rfl rfl (by decide) (by decide) (by decide) (by decide) (by decide) rfl ?_
  refine wLan 61 i69_60 rfl rfl ?_
  refine wGet 64 (.ref 23) i69_61 f69_27 rfl rfl rfl ?_
  refine wLin 65 i69_64 rfl rfl ?_
  refine wLan 66 i69_65 rfl rfl ?_
  refine wGet 69 (.ref 62) i69_66 f69_27 rfl rfl rfl ?_
  refine wLin 70 i69_69 rfl rfl ?_
  refine wLi 72 i69_70 rfl rfl ?_
  refine wCopy0i 75 i69_72 l69_51 rfl rfl (by decide) (by decide) (by decide) (by decide) (by decide) rfl ?_
  refine wLan 76 i69_75 rfl rfl ?_
  refine wGet 79 (.ref 24) i69_76 f69_30 rfl rfl rfl ?_
  refine wLin 80 i69_79 rfl rfl ?_
  refine wLan 81 i69_80 rfl rfl ?_
  refine wGet 84 (.ref 63) i69_81 f69_30 rfl rfl rfl ?_
  refine wLin 85 i69_84 rfl rfl ?_
  refine wLi 87 i69_85 rfl rfl ?_
  refine wCopy0i 90 i69_87 l69_51 rfl rfl (by decide) (by decide) (by decide) (by decide) (by decide) rfl ?_
  refine wLan 91 i69_90 rfl rfl ?_
  refine wGet 94 (.ref 25) i69_91 f69_33 rfl rfl rfl ?_
  refine wLin 95 i69_94 rfl rfl ?_
  refine wKb 97 8 i69_95 (by decide) rfl ?_
  refine wA 98 i69_97 rfl rfl rfl ?_
  refine tTop (v := 1152) (by decide) ?_
  refine wLan 99 i69_98 rfl rfl ?_
  refine wGet 102 (.ref 64) i69_99 f69_33 rfl rfl rfl ?_
  refine wLin 103 i69_102 rfl rfl ?_
  refine wKb 105 8 i69_103 (by decide) rfl ?_
  refine wA 106 i69_105 rfl rfl rfl ?_
  refine tTop (v := 1152) (by decide) ?_
  refine wLi 108 i69_106 rfl rfl ?_
  refine wKb 110 8 i69_108 (by decide) rfl ?_
  refine wA 111 i69_110 rfl rfl rfl ?_
  refine tTop (v := 0) (by decide) ?_
  refine wCopy0l 114 i69_111 l69_51 rfl rfl (by decide) (by decide) (by decide) (by decide) (by decide) rfl ?_
  refine jR0 i69_114 m69 ?_
  refine jR0 i70_31 m70 ?_
  refine wInc 30 [(2, .int 7), (0, .ref 56), (1, .ref 17)] 7 i68_27 m68 (by decide) rfl (by decide) rfl rfl ?_
  refine wGo 2 i68_30 rfl ?_
  refine wLin 3 i68_2 rfl rfl ?_
  refine wLan 4 i68_3 rfl rfl ?_
  refine wGet 7 (.ref 57) i68_4 f68_9 rfl rfl rfl ?_
  refine wAln 8 (n := 8) i68_7 rfl rfl (by decide) rfl ?_
  refine wCF 33 11 i68_8 rfl (by decide) rfl ?_
  refine wLin 12 i68_11 rfl rfl ?_
  refine wLan 13 i68_12 rfl rfl ?_
  refine wGet 16 (.ref 18) i68_13 f68_9 rfl rfl rfl ?_
  refine wAln 17 (n := 8) i68_16 rfl rfl (by decide) rfl ?_
  refine wCF 33 20 i68_17 rfl (by decide) rfl ?_
  refine wLan 21 i68_20 rfl rfl ?_
  refine wLan 22 i68_21 rfl rfl ?_
  refine wLin 23 i68_22 rfl rfl ?_
  refine wLin 24 i68_23 rfl rfl ?_
  refine jCall 27 [.ref 56, .ref 17, .int 7, .int 7] [] [(0, .ref 56), (1, .ref 17), (2, .int 7), (3, .int 7)] i68_24 rfl (xlk0 l68_47) (Or.inl rfl) m70 rfl rfl (Nat.le_of_ble_eq_true rfl) (Nat.le_of_ble_eq_true rfl) (Nat.le_of_ble_eq_true rfl) rfl rfl rfl ?_
  refine wLan 1 i70_0 rfl rfl ?_
  refine wGet 4 (.ref 57) i70_1 f70_9 rfl rfl rfl ?_
  refine wLin 5 i70_4 rfl rfl ?_
  refine wLan 6 i70_5 rfl rfl ?_
  refine wGet 9 (.ref 18) i70_6 f70_9 rfl rfl rfl ?_
  refine wLin 10 i70_9 rfl rfl ?_
  refine wIal 11 i70_10 rfl (by decide) rfl ?_
  refine tTop (v := 0) rfl ?_
  refine wIasS 12 i70_11 rfl (by decide) rfl rfl ?_
  refine wLan 13 i70_12 rfl rfl ?_
  refine wLan 14 i70_13 rfl rfl ?_
  refine wLin 15 i70_14 rfl rfl ?_
  refine wKb 17 24 i70_15 (by decide) rfl ?_
  refine wA 18 i70_17 rfl rfl rfl ?_
  refine tTop (v := 168) (by decide) ?_
  refine wLin 19 i70_18 rfl rfl ?_
  refine wKb 21 24 i70_19 (by decide) rfl ?_
  refine wA 22 i70_21 rfl rfl rfl ?_
  refine tTop (v := 168) (by decide) ?_
  refine wLan 23 i70_22 rfl rfl ?_
  refine wGet 26 (.ref 57) i70_23 f70_9 rfl rfl rfl ?_
  refine wLin 27 i70_26 rfl rfl ?_
  refine wIal 28 i70_27 rfl (by decide) rfl ?_
  refine tTop (v := 0) rfl ?_
  refine jCall 31 [.ref 56, .ref 17, .int 168, .int 168, .int 0] [] [(0, .ref 56), (1, .ref 17), (2, .int 168), (3, .int 168), (4, .int 0)] i70_28 rfl (xlk0 l70_43) (Or.inl rfl) m69 rfl rfl (Nat.le_of_ble_eq_true rfl) (Nat.le_of_ble_eq_true rfl) (Nat.le_of_ble_eq_true rfl) rfl rfl rfl ?_
  refine wLan 1 i69_0 rfl rfl ?_
  refine wGet 4 (.ref 19) i69_1 f69_15 rfl rfl rfl ?_
  refine wLin 5 i69_4 rfl rfl ?_
  refine wLan 6 i69_5 rfl rfl ?_
  refine wGet 9 (.ref 58) i69_6 f69_15 rfl rfl rfl ?_
  refine wLin 10 i69_9 rfl rfl ?_
  refine wLi 12 i69_10 rfl rfl ?_
  refine wCopy0i 15 i69_12 l69_51 rfl rfl (by decide) (by decide) (by decide) (by decide) (by decide) rfl ?_
  refine wLan 16 i69_15 rfl rfl ?_
  refine wGet 19 (.ref 20) i69_16 f69_18 rfl rfl rfl ?_
  refine wLin 20 i69_19 rfl rfl ?_
  refine wLan 21 i69_20 rfl rfl ?_
  refine wGet 24 (.ref 59) i69_21 f69_18 rfl rfl rfl ?_
  refine wLin 25 i69_24 rfl rfl ?_
  refine wLi 27 i69_25 rfl rfl ?_
  refine wCopy0i 30 i69_27 l69_51 rfl rfl (by decide) (by decide) (by decide) (by decide) (by decide) rfl ?_
  refine wLan 31 i69_30 rfl rfl ?_
  refine wGet 34 (.ref 21) i69_31 f69_21 rfl rfl rfl ?_
  refine wLin 35 i69_34 rfl rfl ?_
  refine wLan 36 i69_35 rfl rfl ?_
  refine wGet 39 (.ref 60) i69_36 f69_21 rfl rfl rfl ?_
  refine wLin 40 i69_39 rfl rfl ?_
  refine wLi 42 i69_40 rfl rfl ?_
  refine wCopy0i 45 i69_42 l69_51 rfl rfl (by decide) (by decide) (by decide) (by decide) (by decide) rfl ?_
  refine wLan 46 i69_45 rfl rfl ?_
  refine wGet 49 (.ref 22) i69_46 f69_24 rfl rfl rfl ?_
  refine wLin 50 i69_49 rfl rfl ?_
  refine wLan 51 i69_50 rfl rfl ?_
  refine wGet 54 (.ref 61) i69_51 f69_24 rfl rfl rfl ?_
  refine wLin 55 i69_54 rfl rfl ?_
  refine wLi 57 i69_55 rfl rfl ?_
  refine wCopy0i 60 i69_57 l69_51 rfl rfl (by decide) (by decide) (by decide) (by decide) (by decide) rfl ?_
  refine wLan 61 i69_60 rfl rfl ?_
  refine wGet 64 (.ref 23) i69_61 f69_27 rfl rfl rfl ?_
  refine wLin 65 i69_64 rfl rfl ?_
  refine wLan 66 i69_65 rfl rfl ?_
  refine wGet 69 (.ref 62) i69_66 f69_27 rfl rfl rfl ?_
  refine wLin 70 i69_69 rfl rfl ?_
  refine wLi 72 i69_70 rfl rfl ?_
  refine wCopy0i 75 i69_72 l69_51 rfl rfl (by decide) (by decide) (by decide) (by decide) (by decide) rfl ?_
  refine wLan 76 i69_75 rfl rfl ?_
  refine wGet 79 (.ref 24) i69_76 f69_30 rfl rfl rfl ?_
  refine wLin 80 i69_79 rfl rfl ?_
  refine wLan 81 i69_80 rfl rfl ?_
  refine wGet 84 (.ref 63) i69_81 f69_30 rfl rfl rfl ?_
  refine wLin 85 i69_84 rfl rfl ?_
  refine wLi 87 i69_85 rfl rfl ?_
  refine wCopy0i 90 i69_87 l69_51 rfl rfl (by decide) (by decide) (by decide) (by decide) (by decide) rfl ?_
  refine wLan 91 i69_90 rfl rfl ?_
  refine wGet 94 (.ref 25) i69_91 f69_33 rfl rfl rfl ?_
  refine wLin 95 i69_94 rfl rfl ?_
  refine wKb 97 8 i69_95 (by decide) rfl ?_
  refine wA 98 i69_97 rfl rfl rfl ?_
  refine tTop (v := 1344) (by decide) ?_
  refine wLan 99 i69_98 rfl rfl ?_
  refine wGet 102 (.ref 64) i69_99 f69_33 rfl rfl rfl ?_
  refine wLin 103 i69_102 rfl rfl ?_
  refine wKb 105 8 i69_103 (by decide) rfl ?_
  refine wA 106 i69_105 rfl rfl rfl ?_
  refine tTop (v := 1344) (by decide) ?_
  refine wLi 108 i69_106 rfl rfl ?_
  refine wKb 110 8 i69_108 (by decide) rfl ?_
  refine wA 111 i69_110 rfl rfl rfl ?_
  refine tTop (v := 0) (by decide) ?_
  refine wCopy0l 114 i69_111 l69_51 rfl rfl (by decide) (by decide) (by decide) (by decide) (by decide) rfl ?_
  refine jR0 i69_114 m69 ?_
  refine jR0 i70_31 m70 ?_
  refine wInc 30 [(2, .int 8), (0, .ref 56), (1, .ref 17)] 8 i68_27 m68 (by decide) rfl (by decide) rfl rfl ?_
  refine wGo 2 i68_30 rfl ?_
  refine wLin 3 i68_2 rfl rfl ?_
  refine wLan 4 i68_3 rfl rfl ?_
  refine wGet 7 (.ref 57) i68_4 f68_9 rfl rfl rfl ?_
  refine wAln 8 (n := 8) i68_7 rfl rfl (by decide) rfl ?_
  refine wCT 33 i68_8 rfl (by decide) ?_
  refine jR0 i68_33 m68 ?_
  refine wLan 12 i92_11 rfl rfl ?_
  refine wGet 15 (.ref 65) i92_12 f92_65 rfl rfl rfl ?_
  refine wLan 16 i92_15 rfl rfl ?_
  refine wGet 19 (.ref 26) i92_16 f92_35 rfl rfl rfl ?_
  refine jCall 22 [.ref 65, .ref 26] [] [(0, .ref 65), (1, .ref 26)] i92_19 rfl (xlk0 l92_183) (Or.inl rfl) m75 rfl rfl (Nat.le_of_ble_eq_true rfl) (Nat.le_of_ble_eq_true rfl) (Nat.le_of_ble_eq_true rfl) rfl rfl rfl ?_
  refine wLan 1 i75_0 rfl rfl ?_
  refine jCall 4 [.ref 65] [] [(0, .ref 65)] i75_1 rfl (xlk0 l75_56) (Or.inl rfl) m77 rfl rfl (Nat.le_of_ble_eq_true rfl) (Nat.le_of_ble_eq_true rfl) (Nat.le_of_ble_eq_true rfl) rfl rfl rfl ?_
  refine wK 1 0 i77_0 (by decide) rfl ?_
  refine wSin 2 [(1, .int 0), (0, .ref 65)] i77_1 m77 (by decide) rfl rfl ?_
  refine wLin 3 i77_2 rfl rfl ?_
  refine wLan 4 i77_3 rfl rfl ?_
  refine wGet 7 (.int 0) i77_4 f77_9 rfl rfl rfl ?_
  refine wCT 26 i77_7 rfl (by decide) ?_
  refine wLan 27 i77_26 rfl rfl ?_
  refine wK 28 0 i77_27 (by decide) rfl ?_
  refine wPutS 31 i77_28 p77_9 rfl rfl rfl rfl rfl ?_
  refine jR0 i77_31 m77 ?_
  refine wK 5 0 i75_4 (by decide) rfl ?_
  refine wSin 6 [(2, .int 0), (0, .ref 65), (1, .ref 26)] i75_5 m75 (by decide) rfl rfl ?_
  refine wLin 7 i75_6 rfl rfl ?_
  refine wLan 8 i75_7 rfl rfl ?_
  refine wGet 11 (.int 0) i75_8 f75_9 rfl rfl rfl ?_
  refine wCT 31 i75_11 rfl (by decide) ?_
  refine jR0 i75_31 m75 ?_
  refine wLan 23 i92_22 rfl rfl ?_
  refine wLan 24 i92_23 rfl rfl ?_
  refine wGet 27 (.int 99) i92_24 f92_76 rfl rfl rfl ?_
  refine wPutS 30 i92_27 p92_68 rfl rfl rfl rfl rfl ?_
  refine wLan 31 i92_30 rfl rfl ?_
  refine wK 32 1 i92_31 (by decide) rfl ?_
  refine wPut 35 i92_32 p92_72 rfl (by decide) rfl rfl rfl ?_
  refine wLan 36 i92_35 rfl rfl ?_
  refine wGet 39 (.ref 17) i92_36 f92_28 rfl rfl rfl ?_
  refine jCall 42 [.ref 17] [] [(0, .ref 17)] i92_39 rfl (xlk0 l92_247) (Or.inl rfl) m64 rfl rfl (Nat.le_of_ble_eq_true rfl) (Nat.le_of_ble_eq_true rfl) (Nat.le_of_ble_eq_true rfl) rfl rfl rfl ?_
  refine wK 1 0 i64_0 (by decide) rfl ?_
  refine wSin 2 [(1, .int 0), (0, .ref 17)] i64_1 m64 (by decide) rfl rfl ?_
  refine wK 3 0 i64_2 (by decide) rfl ?_
  refine wSin 4 [(2, .int 0), (1, .int 0), (0, .ref 17)] i64_3 m64 (by decide) rfl rfl ?_
  refine wLin 5 i64_4 rfl rfl ?_
  refine wLan 6 i64_5 rfl rfl ?_
  refine wGet 9 (.ref 18) i64_6 f64_9 rfl rfl rfl ?_
  refine wAln 10 (n := 8) i64_9 rfl rfl (by decide) rfl ?_
  refine wCF 31 13 i64_10 rfl (by decide) rfl ?_
  refine wLan 14 i64_13 rfl rfl ?_
  refine wGet 17 (.ref 18) i64_14 f64_9 rfl rfl rfl ?_
  refine wLin 18 i64_17 rfl rfl ?_
  refine wIal 19 i64_18 rfl (by decide) rfl ?_
  refine tTop (v := 0) rfl ?_
  refine wZT 25 i64_19 rfl (by decide) ?_
  refine wInc 28 [(2, .int 1), (1, .int 0), (0, .ref 17)] 1 i64_25 m64 (by decide) rfl (by decide) rfl rfl ?_
  refine wGo 4 i64_28 rfl ?_
  refine wLin 5 i64_4 rfl rfl ?_
  refine wLan 6 i64_5 rfl rfl ?_
  refine wGet 9 (.ref 18) i64_6 f64_9 rfl rfl rfl ?_
  refine wAln 10 (n := 8) i64_9 rfl rfl (by decide) rfl ?_
  refine wCF 31 13 i64_10 rfl (by decide) rfl ?_
  refine wLan 14 i64_13 rfl rfl ?_
  refine wGet 17 (.ref 18) i64_14 f64_9 rfl rfl rfl ?_
  refine wLin 18 i64_17 rfl rfl ?_
  refine wIal 19 i64_18 rfl (by decide) rfl ?_
  refine tTop (v := 0) rfl ?_
  refine wZT 25 i64_19 rfl (by decide) ?_
  refine wInc 28 [(2, .int 2), (1, .int 0), (0, .ref 17)] 2 i64_25 m64 (by decide) rfl (by decide) rfl rfl ?_
  refine wGo 4 i64_28 rfl ?_
  refine wLin 5 i64_4 rfl rfl ?_
  refine wLan 6 i64_5 rfl rfl ?_
  refine wGet 9 (.ref 18) i64_6 f64_9 rfl rfl rfl ?_
  refine wAln 10 (n := 8) i64_9 rfl rfl (by decide) rfl ?_
  refine wCF 31 13 i64_10 rfl (by decide) rfl ?_
  refine wLan 14 i64_13 rfl rfl ?_
  refine wGet 17 (.ref 18) i64_14 f64_9 rfl rfl rfl ?_
  refine wLin 18 i64_17 rfl rfl ?_
  refine wIal 19 i64_18 rfl (by decide) rfl ?_
  refine tTop (v := 0) rfl ?_
  refine wZT 25 i64_19 rfl (by decide) ?_
  refine wInc 28 [(2, .int 3), (1, .int 0), (0, .ref 17)] 3 i64_25 m64 (by decide) rfl (by decide) rfl rfl ?_
  refine wGo 4 i64_28 rfl ?_
  refine wLin 5 i64_4 rfl rfl ?_
  refine wLan 6 i64_5 rfl rfl ?_
  refine wGet 9 (.ref 18) i64_6 f64_9 rfl rfl rfl ?_
  refine wAln 10 (n := 8) i64_9 rfl rfl (by decide) rfl ?_
  refine wCF 31 13 i64_10 rfl (by decide) rfl ?_
  refine wLan 14 i64_13 rfl rfl ?_
  refine wGet 17 (.ref 18) i64_14 f64_9 rfl rfl rfl ?_
  refine wLin 18 i64_17 rfl rfl ?_
  refine wIal 19 i64_18 rfl (by decide) rfl ?_
  refine tTop (v := 0) rfl ?_
  refine wZT 25 i64_19 rfl (by decide) ?_
  refine wInc 28 [(2, .int 4), (1, .int 0), (0, .ref 17)] 4 i64_25 m64 (by decide) rfl (by decide) rfl rfl ?_
  refine wGo 4 i64_28 rfl ?_
  refine wLin 5 i64_4 rfl rfl ?_
  refine wLan 6 i64_5 rfl rfl ?_
  refine wGet 9 (.ref 18) i64_6 f64_9 rfl rfl rfl ?_
  refine wAln 10 (n := 8) i64_9 rfl rfl (by decide) rfl ?_
  refine wCF 31 13 i64_10 rfl (by decide) rfl ?_
  refine wLan 14 i64_13 rfl rfl ?_
  refine wGet 17 (.ref 18) i64_14 f64_9 rfl rfl rfl ?_
  refine wLin 18 i64_17 rfl rfl ?_
  refine wIal 19 i64_18 rfl (by decide) rfl ?_
  refine tTop (v := 0) rfl ?_
  refine wZT 25 i64_19 rfl (by decide) ?_
  refine wInc 28 [(2, .int 5), (1, .int 0), (0, .ref 17)] 5 i64_25 m64 (by decide) rfl (by decide) rfl rfl ?_
  refine wGo 4 i64_28 rfl ?_
  refine wLin 5 i64_4 rfl rfl ?_
  refine wLan 6 i64_5 rfl rfl ?_
  refine wGet 9 (.ref 18) i64_6 f64_9 rfl rfl rfl ?_
  refine wAln 10 (n := 8) i64_9 rfl rfl (by decide) rfl ?_
  refine wCF 31 13 i64_10 rfl (by decide) rfl ?_
  refine wLan 14 i64_13 rfl rfl ?_
  refine wGet 17 (.ref 18) i64_14 f64_9 rfl rfl rfl ?_
  refine wLin 18 i64_17 rfl rfl ?_
  refine wIal 19 i64_18 rfl (by decide) rfl ?_
  refine tTop (v := 0) rfl ?_
  refine wZT 25 i64_19 rfl (by decide) ?_
  refine wInc 28 [(2, .int 6), (1, .int 0), (0, .ref 17)] 6 i64_25 m64 (by decide) rfl (by decide) rfl rfl ?_
  refine wGo 4 i64_28 rfl ?_
  refine wLin 5 i64_4 rfl rfl ?_
  refine wLan 6 i64_5 rfl rfl ?_
  refine wGet 9 (.ref 18) i64_6 f64_9 rfl rfl rfl ?_
  refine wAln 10 (n := 8) i64_9 rfl rfl (by decide) rfl ?_
  refine wCF 31 13 i64_10 rfl (by decide) rfl ?_
  refine wLan 14 i64_13 rfl rfl ?_
  refine wGet 17 (.ref 18) i64_14 f64_9 rfl rfl rfl ?_
  refine wLin 18 i64_17 rfl rfl ?_
  refine wIal 19 i64_18 rfl (by decide) rfl ?_
  refine tTop (v := 0) rfl ?_
  refine wZT 25 i64_19 rfl (by decide) ?_
  refine wInc 28 [(2, .int 7), (1, .int 0), (0, .ref 17)] 7 i64_25 m64 (by decide) rfl (by decide) rfl rfl ?_
  refine wGo 4 i64_28 rfl ?_
  refine wLin 5 i64_4 rfl rfl ?_
  refine wLan 6 i64_5 rfl rfl ?_
  refine wGet 9 (.ref 18) i64_6 f64_9 rfl rfl rfl ?_
  refine wAln 10 (n := 8) i64_9 rfl rfl (by decide) rfl ?_
  refine wCF 31 13 i64_10 rfl (by decide) rfl ?_
  refine wLan 14 i64_13 rfl rfl ?_
  refine wGet 17 (.ref 18) i64_14 f64_9 rfl rfl rfl ?_
  refine wLin 18 i64_17 rfl rfl ?_
  refine wIal 19 i64_18 rfl (by decide) rfl ?_
  refine tTop (v := 0) rfl ?_
  refine wZT 25 i64_19 rfl (by decide) ?_
  refine wInc 28 [(2, .int 8), (1, .int 0), (0, .ref 17)] 8 i64_25 m64 (by decide) rfl (by decide) rfl rfl ?_
  refine wGo 4 i64_28 rfl ?_
  refine wLin 5 i64_4 rfl rfl ?_
  refine wLan 6 i64_5 rfl rfl ?_
  refine wGet 9 (.ref 18) i64_6 f64_9 rfl rfl rfl ?_
  refine wAln 10 (n := 8) i64_9 rfl rfl (by decide) rfl ?_
  refine wCT 31 i64_10 rfl (by decide) ?_
  refine wLin 32 i64_31 rfl rfl ?_
  refine jRi i64_32 m64 rfl ?_
  refine wRi i92_42 m92 rfl ?_
  refine ⟨congrArg (fun z => some (Value.int z)) ?_, xpre_of _ _ rfl, rfl⟩
  rw [sp_image]
def sp_back  : Int32 := (-3)
set_option maxHeartbeats 4000000 in
set_option maxRecDepth 100000 in
theorem q_back {sc : xS} {d : Nat} (t : xH)  : xT xg sc (d + 12) 79 0 [(0, .ref 0)] [] (hC t) (fun r => r.1 = some (.int (sp_back )) ∧ (∃ f, r.2.1 = xpre f t) ∧ r.2.2 = (0, 0)) := by
  refine wLan 1 i79_0 rfl rfl ?_
  refine wGet 4 (.int 0) i79_1 f79_72 rfl rfl rfl ?_
  refine wZF 10 7 i79_4 rfl (by decide) rfl ?_
  refine wKb 9 (-3) i79_7 (by decide) rfl ?_
  refine wRi i79_9 m79 rfl ?_
  refine ⟨congrArg (fun z => some (Value.int z)) ?_, xpre_of _ _ rfl, rfl⟩
  rw [sp_back]
def sp_count (a1 : Int32) : Int32 := (if a1 = 0 then 0 else (if a1 = 1 then 0 else (if a1 = 2 then 0 else (if a1 = 3 then 0 else (if a1 = 4 then 0 else (if a1 = 5 then 0 else (if a1 = 6 then 99 else (-2))))))))
set_option maxHeartbeats 4000000 in
set_option maxRecDepth 100000 in
theorem q_count {sc : xS} {d : Nat} (t : xH) (a1 : Int32) : xT xg sc (d + 12) 81 0 [(0, .ref 0), (1, .int (a1))] [] (hC t) (fun r => r.1 = some (.int (sp_count a1)) ∧ (∃ f, r.2.1 = xpre f t) ∧ r.2.2 = (0, 0)) := by
  refine wLin 1 i81_0 rfl rfl ?_
  by_cases c1 : a1 = 0
  ·
    subst c1
    refine wSw 44 i81_1 (by rfl) ?_
    refine wLan 45 i81_44 rfl rfl ?_
    refine wGet 48 (.ref 17) i81_45 f81_28 rfl rfl rfl ?_
    refine jCall 51 [.ref 17] [] [(0, .ref 17)] i81_48 rfl (xlk0 l81_247) (Or.inl rfl) m64 rfl rfl (Nat.le_of_ble_eq_true rfl) (Nat.le_of_ble_eq_true rfl) (Nat.le_of_ble_eq_true rfl) rfl rfl rfl ?_
    refine wK 1 0 i64_0 (by decide) rfl ?_
    refine wSin 2 [(1, .int 0), (0, .ref 17)] i64_1 m64 (by decide) rfl rfl ?_
    refine wK 3 0 i64_2 (by decide) rfl ?_
    refine wSin 4 [(2, .int 0), (1, .int 0), (0, .ref 17)] i64_3 m64 (by decide) rfl rfl ?_
    refine wLin 5 i64_4 rfl rfl ?_
    refine wLan 6 i64_5 rfl rfl ?_
    refine wGet 9 (.ref 18) i64_6 f64_9 rfl rfl rfl ?_
    refine wAln 10 (n := 8) i64_9 rfl rfl (by decide) rfl ?_
    refine wCF 31 13 i64_10 rfl (by decide) rfl ?_
    refine wLan 14 i64_13 rfl rfl ?_
    refine wGet 17 (.ref 18) i64_14 f64_9 rfl rfl rfl ?_
    refine wLin 18 i64_17 rfl rfl ?_
    refine wIal 19 i64_18 rfl (by decide) rfl ?_
    refine tTop (v := 0) rfl ?_
    refine wZT 25 i64_19 rfl (by decide) ?_
    refine wInc 28 [(2, .int 1), (1, .int 0), (0, .ref 17)] 1 i64_25 m64 (by decide) rfl (by decide) rfl rfl ?_
    refine wGo 4 i64_28 rfl ?_
    refine wLin 5 i64_4 rfl rfl ?_
    refine wLan 6 i64_5 rfl rfl ?_
    refine wGet 9 (.ref 18) i64_6 f64_9 rfl rfl rfl ?_
    refine wAln 10 (n := 8) i64_9 rfl rfl (by decide) rfl ?_
    refine wCF 31 13 i64_10 rfl (by decide) rfl ?_
    refine wLan 14 i64_13 rfl rfl ?_
    refine wGet 17 (.ref 18) i64_14 f64_9 rfl rfl rfl ?_
    refine wLin 18 i64_17 rfl rfl ?_
    refine wIal 19 i64_18 rfl (by decide) rfl ?_
    refine tTop (v := 0) rfl ?_
    refine wZT 25 i64_19 rfl (by decide) ?_
    refine wInc 28 [(2, .int 2), (1, .int 0), (0, .ref 17)] 2 i64_25 m64 (by decide) rfl (by decide) rfl rfl ?_
    refine wGo 4 i64_28 rfl ?_
    refine wLin 5 i64_4 rfl rfl ?_
    refine wLan 6 i64_5 rfl rfl ?_
    refine wGet 9 (.ref 18) i64_6 f64_9 rfl rfl rfl ?_
    refine wAln 10 (n := 8) i64_9 rfl rfl (by decide) rfl ?_
    refine wCF 31 13 i64_10 rfl (by decide) rfl ?_
    refine wLan 14 i64_13 rfl rfl ?_
    refine wGet 17 (.ref 18) i64_14 f64_9 rfl rfl rfl ?_
    refine wLin 18 i64_17 rfl rfl ?_
    refine wIal 19 i64_18 rfl (by decide) rfl ?_
    refine tTop (v := 0) rfl ?_
    refine wZT 25 i64_19 rfl (by decide) ?_
    refine wInc 28 [(2, .int 3), (1, .int 0), (0, .ref 17)] 3 i64_25 m64 (by decide) rfl (by decide) rfl rfl ?_
    refine wGo 4 i64_28 rfl ?_
    refine wLin 5 i64_4 rfl rfl ?_
    refine wLan 6 i64_5 rfl rfl ?_
    refine wGet 9 (.ref 18) i64_6 f64_9 rfl rfl rfl ?_
    refine wAln 10 (n := 8) i64_9 rfl rfl (by decide) rfl ?_
    refine wCF 31 13 i64_10 rfl (by decide) rfl ?_
    refine wLan 14 i64_13 rfl rfl ?_
    refine wGet 17 (.ref 18) i64_14 f64_9 rfl rfl rfl ?_
    refine wLin 18 i64_17 rfl rfl ?_
    refine wIal 19 i64_18 rfl (by decide) rfl ?_
    refine tTop (v := 0) rfl ?_
    refine wZT 25 i64_19 rfl (by decide) ?_
    refine wInc 28 [(2, .int 4), (1, .int 0), (0, .ref 17)] 4 i64_25 m64 (by decide) rfl (by decide) rfl rfl ?_
    refine wGo 4 i64_28 rfl ?_
    refine wLin 5 i64_4 rfl rfl ?_
    refine wLan 6 i64_5 rfl rfl ?_
    refine wGet 9 (.ref 18) i64_6 f64_9 rfl rfl rfl ?_
    refine wAln 10 (n := 8) i64_9 rfl rfl (by decide) rfl ?_
    refine wCF 31 13 i64_10 rfl (by decide) rfl ?_
    refine wLan 14 i64_13 rfl rfl ?_
    refine wGet 17 (.ref 18) i64_14 f64_9 rfl rfl rfl ?_
    refine wLin 18 i64_17 rfl rfl ?_
    refine wIal 19 i64_18 rfl (by decide) rfl ?_
    refine tTop (v := 0) rfl ?_
    refine wZT 25 i64_19 rfl (by decide) ?_
    refine wInc 28 [(2, .int 5), (1, .int 0), (0, .ref 17)] 5 i64_25 m64 (by decide) rfl (by decide) rfl rfl ?_
    refine wGo 4 i64_28 rfl ?_
    refine wLin 5 i64_4 rfl rfl ?_
    refine wLan 6 i64_5 rfl rfl ?_
    refine wGet 9 (.ref 18) i64_6 f64_9 rfl rfl rfl ?_
    refine wAln 10 (n := 8) i64_9 rfl rfl (by decide) rfl ?_
    refine wCF 31 13 i64_10 rfl (by decide) rfl ?_
    refine wLan 14 i64_13 rfl rfl ?_
    refine wGet 17 (.ref 18) i64_14 f64_9 rfl rfl rfl ?_
    refine wLin 18 i64_17 rfl rfl ?_
    refine wIal 19 i64_18 rfl (by decide) rfl ?_
    refine tTop (v := 0) rfl ?_
    refine wZT 25 i64_19 rfl (by decide) ?_
    refine wInc 28 [(2, .int 6), (1, .int 0), (0, .ref 17)] 6 i64_25 m64 (by decide) rfl (by decide) rfl rfl ?_
    refine wGo 4 i64_28 rfl ?_
    refine wLin 5 i64_4 rfl rfl ?_
    refine wLan 6 i64_5 rfl rfl ?_
    refine wGet 9 (.ref 18) i64_6 f64_9 rfl rfl rfl ?_
    refine wAln 10 (n := 8) i64_9 rfl rfl (by decide) rfl ?_
    refine wCF 31 13 i64_10 rfl (by decide) rfl ?_
    refine wLan 14 i64_13 rfl rfl ?_
    refine wGet 17 (.ref 18) i64_14 f64_9 rfl rfl rfl ?_
    refine wLin 18 i64_17 rfl rfl ?_
    refine wIal 19 i64_18 rfl (by decide) rfl ?_
    refine tTop (v := 0) rfl ?_
    refine wZT 25 i64_19 rfl (by decide) ?_
    refine wInc 28 [(2, .int 7), (1, .int 0), (0, .ref 17)] 7 i64_25 m64 (by decide) rfl (by decide) rfl rfl ?_
    refine wGo 4 i64_28 rfl ?_
    refine wLin 5 i64_4 rfl rfl ?_
    refine wLan 6 i64_5 rfl rfl ?_
    refine wGet 9 (.ref 18) i64_6 f64_9 rfl rfl rfl ?_
    refine wAln 10 (n := 8) i64_9 rfl rfl (by decide) rfl ?_
    refine wCF 31 13 i64_10 rfl (by decide) rfl ?_
    refine wLan 14 i64_13 rfl rfl ?_
    refine wGet 17 (.ref 18) i64_14 f64_9 rfl rfl rfl ?_
    refine wLin 18 i64_17 rfl rfl ?_
    refine wIal 19 i64_18 rfl (by decide) rfl ?_
    refine tTop (v := 0) rfl ?_
    refine wZT 25 i64_19 rfl (by decide) ?_
    refine wInc 28 [(2, .int 8), (1, .int 0), (0, .ref 17)] 8 i64_25 m64 (by decide) rfl (by decide) rfl rfl ?_
    refine wGo 4 i64_28 rfl ?_
    refine wLin 5 i64_4 rfl rfl ?_
    refine wLan 6 i64_5 rfl rfl ?_
    refine wGet 9 (.ref 18) i64_6 f64_9 rfl rfl rfl ?_
    refine wAln 10 (n := 8) i64_9 rfl rfl (by decide) rfl ?_
    refine wCT 31 i64_10 rfl (by decide) ?_
    refine wLin 32 i64_31 rfl rfl ?_
    refine jRi i64_32 m64 rfl ?_
    refine wRi i81_51 m81 rfl ?_
    refine ⟨congrArg (fun z => some (Value.int z)) ?_, xpre_of _ _ rfl, rfl⟩
    rw [sp_count, if_pos rfl]
  by_cases c2 : a1 = 1
  ·
    subst c2
    refine wSw 52 i81_1 (by rfl) ?_
    refine wLan 53 i81_52 rfl rfl ?_
    refine wGet 56 (.ref 17) i81_53 f81_28 rfl rfl rfl ?_
    refine jCall 59 [.ref 17] [] [(0, .ref 17)] i81_56 rfl (xlk0 l81_250) (Or.inl rfl) m61 rfl rfl (Nat.le_of_ble_eq_true rfl) (Nat.le_of_ble_eq_true rfl) (Nat.le_of_ble_eq_true rfl) rfl rfl rfl ?_
    refine wK 1 0 i61_0 (by decide) rfl ?_
    refine wSin 2 [(1, .int 0), (0, .ref 17)] i61_1 m61 (by decide) rfl rfl ?_
    refine wK 3 0 i61_2 (by decide) rfl ?_
    refine wSin 4 [(2, .int 0), (1, .int 0), (0, .ref 17)] i61_3 m61 (by decide) rfl rfl ?_
    refine wLin 5 i61_4 rfl rfl ?_
    refine wLan 6 i61_5 rfl rfl ?_
    refine wGet 9 (.ref 18) i61_6 f61_9 rfl rfl rfl ?_
    refine wAln 10 (n := 8) i61_9 rfl rfl (by decide) rfl ?_
    refine wCF 28 13 i61_10 rfl (by decide) rfl ?_
    refine wLin 14 i61_13 rfl rfl ?_
    refine wLan 15 i61_14 rfl rfl ?_
    refine wGet 18 (.ref 18) i61_15 f61_9 rfl rfl rfl ?_
    refine wLin 19 i61_18 rfl rfl ?_
    refine wIal 20 i61_19 rfl (by decide) rfl ?_
    refine tTop (v := 0) rfl ?_
    refine wA 21 i61_20 rfl rfl rfl ?_
    refine tTop (v := 0) (by decide) ?_
    refine wSin 22 [(1, .int 0), (2, .int 0), (0, .ref 17)] i61_21 m61 (by decide) rfl rfl ?_
    refine wInc 25 [(2, .int 1), (1, .int 0), (0, .ref 17)] 1 i61_22 m61 (by decide) rfl (by decide) rfl rfl ?_
    refine wGo 4 i61_25 rfl ?_
    refine wLin 5 i61_4 rfl rfl ?_
    refine wLan 6 i61_5 rfl rfl ?_
    refine wGet 9 (.ref 18) i61_6 f61_9 rfl rfl rfl ?_
    refine wAln 10 (n := 8) i61_9 rfl rfl (by decide) rfl ?_
    refine wCF 28 13 i61_10 rfl (by decide) rfl ?_
    refine wLin 14 i61_13 rfl rfl ?_
    refine wLan 15 i61_14 rfl rfl ?_
    refine wGet 18 (.ref 18) i61_15 f61_9 rfl rfl rfl ?_
    refine wLin 19 i61_18 rfl rfl ?_
    refine wIal 20 i61_19 rfl (by decide) rfl ?_
    refine tTop (v := 0) rfl ?_
    refine wA 21 i61_20 rfl rfl rfl ?_
    refine tTop (v := 0) (by decide) ?_
    refine wSin 22 [(1, .int 0), (2, .int 1), (0, .ref 17)] i61_21 m61 (by decide) rfl rfl ?_
    refine wInc 25 [(2, .int 2), (1, .int 0), (0, .ref 17)] 2 i61_22 m61 (by decide) rfl (by decide) rfl rfl ?_
    refine wGo 4 i61_25 rfl ?_
    refine wLin 5 i61_4 rfl rfl ?_
    refine wLan 6 i61_5 rfl rfl ?_
    refine wGet 9 (.ref 18) i61_6 f61_9 rfl rfl rfl ?_
    refine wAln 10 (n := 8) i61_9 rfl rfl (by decide) rfl ?_
    refine wCF 28 13 i61_10 rfl (by decide) rfl ?_
    refine wLin 14 i61_13 rfl rfl ?_
    refine wLan 15 i61_14 rfl rfl ?_
    refine wGet 18 (.ref 18) i61_15 f61_9 rfl rfl rfl ?_
    refine wLin 19 i61_18 rfl rfl ?_
    refine wIal 20 i61_19 rfl (by decide) rfl ?_
    refine tTop (v := 0) rfl ?_
    refine wA 21 i61_20 rfl rfl rfl ?_
    refine tTop (v := 0) (by decide) ?_
    refine wSin 22 [(1, .int 0), (2, .int 2), (0, .ref 17)] i61_21 m61 (by decide) rfl rfl ?_
    refine wInc 25 [(2, .int 3), (1, .int 0), (0, .ref 17)] 3 i61_22 m61 (by decide) rfl (by decide) rfl rfl ?_
    refine wGo 4 i61_25 rfl ?_
    refine wLin 5 i61_4 rfl rfl ?_
    refine wLan 6 i61_5 rfl rfl ?_
    refine wGet 9 (.ref 18) i61_6 f61_9 rfl rfl rfl ?_
    refine wAln 10 (n := 8) i61_9 rfl rfl (by decide) rfl ?_
    refine wCF 28 13 i61_10 rfl (by decide) rfl ?_
    refine wLin 14 i61_13 rfl rfl ?_
    refine wLan 15 i61_14 rfl rfl ?_
    refine wGet 18 (.ref 18) i61_15 f61_9 rfl rfl rfl ?_
    refine wLin 19 i61_18 rfl rfl ?_
    refine wIal 20 i61_19 rfl (by decide) rfl ?_
    refine tTop (v := 0) rfl ?_
    refine wA 21 i61_20 rfl rfl rfl ?_
    refine tTop (v := 0) (by decide) ?_
    refine wSin 22 [(1, .int 0), (2, .int 3), (0, .ref 17)] i61_21 m61 (by decide) rfl rfl ?_
    refine wInc 25 [(2, .int 4), (1, .int 0), (0, .ref 17)] 4 i61_22 m61 (by decide) rfl (by decide) rfl rfl ?_
    refine wGo 4 i61_25 rfl ?_
    refine wLin 5 i61_4 rfl rfl ?_
    refine wLan 6 i61_5 rfl rfl ?_
    refine wGet 9 (.ref 18) i61_6 f61_9 rfl rfl rfl ?_
    refine wAln 10 (n := 8) i61_9 rfl rfl (by decide) rfl ?_
    refine wCF 28 13 i61_10 rfl (by decide) rfl ?_
    refine wLin 14 i61_13 rfl rfl ?_
    refine wLan 15 i61_14 rfl rfl ?_
    refine wGet 18 (.ref 18) i61_15 f61_9 rfl rfl rfl ?_
    refine wLin 19 i61_18 rfl rfl ?_
    refine wIal 20 i61_19 rfl (by decide) rfl ?_
    refine tTop (v := 0) rfl ?_
    refine wA 21 i61_20 rfl rfl rfl ?_
    refine tTop (v := 0) (by decide) ?_
    refine wSin 22 [(1, .int 0), (2, .int 4), (0, .ref 17)] i61_21 m61 (by decide) rfl rfl ?_
    refine wInc 25 [(2, .int 5), (1, .int 0), (0, .ref 17)] 5 i61_22 m61 (by decide) rfl (by decide) rfl rfl ?_
    refine wGo 4 i61_25 rfl ?_
    refine wLin 5 i61_4 rfl rfl ?_
    refine wLan 6 i61_5 rfl rfl ?_
    refine wGet 9 (.ref 18) i61_6 f61_9 rfl rfl rfl ?_
    refine wAln 10 (n := 8) i61_9 rfl rfl (by decide) rfl ?_
    refine wCF 28 13 i61_10 rfl (by decide) rfl ?_
    refine wLin 14 i61_13 rfl rfl ?_
    refine wLan 15 i61_14 rfl rfl ?_
    refine wGet 18 (.ref 18) i61_15 f61_9 rfl rfl rfl ?_
    refine wLin 19 i61_18 rfl rfl ?_
    refine wIal 20 i61_19 rfl (by decide) rfl ?_
    refine tTop (v := 0) rfl ?_
    refine wA 21 i61_20 rfl rfl rfl ?_
    refine tTop (v := 0) (by decide) ?_
    refine wSin 22 [(1, .int 0), (2, .int 5), (0, .ref 17)] i61_21 m61 (by decide) rfl rfl ?_
    refine wInc 25 [(2, .int 6), (1, .int 0), (0, .ref 17)] 6 i61_22 m61 (by decide) rfl (by decide) rfl rfl ?_
    refine wGo 4 i61_25 rfl ?_
    refine wLin 5 i61_4 rfl rfl ?_
    refine wLan 6 i61_5 rfl rfl ?_
    refine wGet 9 (.ref 18) i61_6 f61_9 rfl rfl rfl ?_
    refine wAln 10 (n := 8) i61_9 rfl rfl (by decide) rfl ?_
    refine wCF 28 13 i61_10 rfl (by decide) rfl ?_
    refine wLin 14 i61_13 rfl rfl ?_
    refine wLan 15 i61_14 rfl rfl ?_
    refine wGet 18 (.ref 18) i61_15 f61_9 rfl rfl rfl ?_
    refine wLin 19 i61_18 rfl rfl ?_
    refine wIal 20 i61_19 rfl (by decide) rfl ?_
    refine tTop (v := 0) rfl ?_
    refine wA 21 i61_20 rfl rfl rfl ?_
    refine tTop (v := 0) (by decide) ?_
    refine wSin 22 [(1, .int 0), (2, .int 6), (0, .ref 17)] i61_21 m61 (by decide) rfl rfl ?_
    refine wInc 25 [(2, .int 7), (1, .int 0), (0, .ref 17)] 7 i61_22 m61 (by decide) rfl (by decide) rfl rfl ?_
    refine wGo 4 i61_25 rfl ?_
    refine wLin 5 i61_4 rfl rfl ?_
    refine wLan 6 i61_5 rfl rfl ?_
    refine wGet 9 (.ref 18) i61_6 f61_9 rfl rfl rfl ?_
    refine wAln 10 (n := 8) i61_9 rfl rfl (by decide) rfl ?_
    refine wCF 28 13 i61_10 rfl (by decide) rfl ?_
    refine wLin 14 i61_13 rfl rfl ?_
    refine wLan 15 i61_14 rfl rfl ?_
    refine wGet 18 (.ref 18) i61_15 f61_9 rfl rfl rfl ?_
    refine wLin 19 i61_18 rfl rfl ?_
    refine wIal 20 i61_19 rfl (by decide) rfl ?_
    refine tTop (v := 0) rfl ?_
    refine wA 21 i61_20 rfl rfl rfl ?_
    refine tTop (v := 0) (by decide) ?_
    refine wSin 22 [(1, .int 0), (2, .int 7), (0, .ref 17)] i61_21 m61 (by decide) rfl rfl ?_
    refine wInc 25 [(2, .int 8), (1, .int 0), (0, .ref 17)] 8 i61_22 m61 (by decide) rfl (by decide) rfl rfl ?_
    refine wGo 4 i61_25 rfl ?_
    refine wLin 5 i61_4 rfl rfl ?_
    refine wLan 6 i61_5 rfl rfl ?_
    refine wGet 9 (.ref 18) i61_6 f61_9 rfl rfl rfl ?_
    refine wAln 10 (n := 8) i61_9 rfl rfl (by decide) rfl ?_
    refine wCT 28 i61_10 rfl (by decide) ?_
    refine wLin 29 i61_28 rfl rfl ?_
    refine jRi i61_29 m61 rfl ?_
    refine wRi i81_59 m81 rfl ?_
    refine ⟨congrArg (fun z => some (Value.int z)) ?_, xpre_of _ _ rfl, rfl⟩
    rw [sp_count, if_neg (by decide), if_pos rfl]
  by_cases c3 : a1 = 2
  ·
    subst c3
    refine wSw 60 i81_1 (by rfl) ?_
    refine wLan 61 i81_60 rfl rfl ?_
    refine wGet 64 (.ref 26) i81_61 f81_35 rfl rfl rfl ?_
    refine jCall 67 [.ref 26] [] [(0, .ref 26)] i81_64 rfl (xlk0 l81_190) (Or.inl rfl) m72 rfl rfl (Nat.le_of_ble_eq_true rfl) (Nat.le_of_ble_eq_true rfl) (Nat.le_of_ble_eq_true rfl) rfl rfl rfl ?_
    refine wK 1 0 i72_0 (by decide) rfl ?_
    refine wSin 2 [(1, .int 0), (0, .ref 26)] i72_1 m72 (by decide) rfl rfl ?_
    refine wK 3 0 i72_2 (by decide) rfl ?_
    refine wSin 4 [(2, .int 0), (1, .int 0), (0, .ref 26)] i72_3 m72 (by decide) rfl rfl ?_
    refine wLin 5 i72_4 rfl rfl ?_
    refine wLan 6 i72_5 rfl rfl ?_
    refine wGet 9 (.int 0) i72_6 f72_9 rfl rfl rfl ?_
    refine wCT 32 i72_9 rfl (by decide) ?_
    refine wLin 33 i72_32 rfl rfl ?_
    refine jRi i72_33 m72 rfl ?_
    refine wRi i81_67 m81 rfl ?_
    refine ⟨congrArg (fun z => some (Value.int z)) ?_, xpre_of _ _ rfl, rfl⟩
    rw [sp_count, if_neg (by decide), if_neg (by decide), if_pos rfl]
  by_cases c4 : a1 = 3
  ·
    subst c4
    refine wSw 68 i81_1 (by rfl) ?_
    refine wLan 69 i81_68 rfl rfl ?_
    refine wGet 72 (.ref 26) i81_69 f81_35 rfl rfl rfl ?_
    refine jCall 75 [.ref 26] [] [(0, .ref 26)] i81_72 rfl (xlk0 l81_193) (Or.inl rfl) m71 rfl rfl (Nat.le_of_ble_eq_true rfl) (Nat.le_of_ble_eq_true rfl) (Nat.le_of_ble_eq_true rfl) rfl rfl rfl ?_
    refine wK 1 0 i71_0 (by decide) rfl ?_
    refine wSin 2 [(1, .int 0), (0, .ref 26)] i71_1 m71 (by decide) rfl rfl ?_
    refine wK 3 0 i71_2 (by decide) rfl ?_
    refine wSin 4 [(2, .int 0), (1, .int 0), (0, .ref 26)] i71_3 m71 (by decide) rfl rfl ?_
    refine wLin 5 i71_4 rfl rfl ?_
    refine wLan 6 i71_5 rfl rfl ?_
    refine wGet 9 (.int 0) i71_6 f71_9 rfl rfl rfl ?_
    refine wCT 32 i71_9 rfl (by decide) ?_
    refine wLin 33 i71_32 rfl rfl ?_
    refine jRi i71_33 m71 rfl ?_
    refine wRi i81_75 m81 rfl ?_
    refine ⟨congrArg (fun z => some (Value.int z)) ?_, xpre_of _ _ rfl, rfl⟩
    rw [sp_count, if_neg (by decide), if_neg (by decide), if_neg (by decide), if_pos rfl]
  by_cases c5 : a1 = 4
  ·
    subst c5
    refine wSw 76 i81_1 (by rfl) ?_
    refine wLan 77 i81_76 rfl rfl ?_
    refine wGet 80 (.int 0) i81_77 f81_79 rfl rfl rfl ?_
    refine wRi i81_80 m81 rfl ?_
    refine ⟨congrArg (fun z => some (Value.int z)) ?_, xpre_of _ _ rfl, rfl⟩
    rw [sp_count, if_neg (by decide), if_neg (by decide), if_neg (by decide), if_neg (by decide), if_pos rfl]
  by_cases c6 : a1 = 5
  ·
    subst c6
    refine wSw 81 i81_1 (by rfl) ?_
    refine wLan 82 i81_81 rfl rfl ?_
    refine wGet 85 (.ref 1) i81_82 f81_10 rfl rfl rfl ?_
    refine wGet 88 (.int 0) i81_85 f81_253 rfl rfl rfl ?_
    refine wRi i81_88 m81 rfl ?_
    refine ⟨congrArg (fun z => some (Value.int z)) ?_, xpre_of _ _ rfl, rfl⟩
    rw [sp_count, if_neg (by decide), if_neg (by decide), if_neg (by decide), if_neg (by decide), if_neg (by decide), if_pos rfl]
  by_cases c7 : a1 = 6
  ·
    subst c7
    refine wSw 89 i81_1 (by rfl) ?_
    refine wLan 90 i81_89 rfl rfl ?_
    refine wGet 93 (.int 99) i81_90 f81_76 rfl rfl rfl ?_
    refine wRi i81_93 m81 rfl ?_
    refine ⟨congrArg (fun z => some (Value.int z)) ?_, xpre_of _ _ rfl, rfl⟩
    rw [sp_count, if_neg (by decide), if_neg (by decide), if_neg (by decide), if_neg (by decide), if_neg (by decide), if_neg (by decide), if_pos rfl]
  have qc1 : ¬ a1.toInt = 0 := fun z => c1 (Int32.toInt_inj.mp z)
  have qc2 : ¬ a1.toInt = 1 := fun z => c2 (Int32.toInt_inj.mp z)
  have qc3 : ¬ a1.toInt = 2 := fun z => c3 (Int32.toInt_inj.mp z)
  have qc4 : ¬ a1.toInt = 3 := fun z => c4 (Int32.toInt_inj.mp z)
  have qc5 : ¬ a1.toInt = 4 := fun z => c5 (Int32.toInt_inj.mp z)
  have qc6 : ¬ a1.toInt = 5 := fun z => c6 (Int32.toInt_inj.mp z)
  have qc7 : ¬ a1.toInt = 6 := fun z => c7 (Int32.toInt_inj.mp z)
  refine wSwD 94 i81_1 (by omega) rfl ?_
  refine wKb 96 (-2) i81_94 (by decide) rfl ?_
  refine wRi i81_96 m81 rfl ?_
  refine ⟨congrArg (fun z => some (Value.int z)) ?_, xpre_of _ _ rfl, rfl⟩
  rw [sp_count, if_neg c1, if_neg c2, if_neg c3, if_neg c4, if_neg c5, if_neg c6, if_neg c7]
def sp_put (a1 : Int32) (a2 : Int32) (a3 : Int64) : Int32 := (if (a1) < 0 then (-2) else (if 4 ≤ (a1) then (-2) else (-11)))
set_option maxHeartbeats 4000000 in
set_option maxRecDepth 100000 in
theorem q_put {sc : xS} {d : Nat} (t : xH) (a1 : Int32) (a2 : Int32) (a3 : Int64) : xT xg sc (d + 12) 107 0 [(0, .ref 0), (1, .int (a1)), (2, .int (a2)), (3, .long (a3))] [] (hC t) (fun r => r.1 = some (.int (sp_put a1 a2 a3)) ∧ (∃ f, r.2.1 = xpre f t) ∧ r.2.2 = (0, 0)) := by
  refine wLin 1 i107_0 rfl rfl ?_
  refine jCall 4 [.int (a1)] [] [(0, .int (a1))] i107_1 rfl (xlk1 l107_215) (Or.inr (Or.inl rfl)) m97 rfl rfl (Nat.le_of_ble_eq_true rfl) (Nat.le_of_ble_eq_true rfl) (Nat.le_of_ble_eq_true rfl) rfl rfl rfl ?_
  refine wLin 1 i97_0 rfl rfl ?_
  by_cases c1 : (a1) < 0
  ·
    refine wZT 13 i97_1 rfl (decide_eq_true c1) ?_
    refine wK 14 0 i97_13 (by decide) rfl ?_
    refine jRi i97_14 m97 (by decide) ?_
    refine wZF 10 7 i107_4 rfl (by decide) rfl ?_
    refine wKb 9 (-2) i107_7 (by decide) rfl ?_
    refine wRi i107_9 m107 rfl ?_
    refine ⟨congrArg (fun z => some (Value.int z)) ?_, xpre_of _ _ rfl, rfl⟩
    rw [sp_put, if_pos c1]
  ·
    refine wZF 13 4 i97_1 rfl (decide_eq_false c1) rfl ?_
    refine wLin 5 i97_4 rfl rfl ?_
    refine wK 6 4 i97_5 (by decide) rfl ?_
    by_cases c2 : 4 ≤ (a1)
    ·
      refine wCT 13 i97_6 rfl (decide_eq_true c2) ?_
      refine wK 14 0 i97_13 (by decide) rfl ?_
      refine jRi i97_14 m97 (by decide) ?_
      refine wZF 10 7 i107_4 rfl (by decide) rfl ?_
      refine wKb 9 (-2) i107_7 (by decide) rfl ?_
      refine wRi i107_9 m107 rfl ?_
      refine ⟨congrArg (fun z => some (Value.int z)) ?_, xpre_of _ _ rfl, rfl⟩
      rw [sp_put, if_neg c1, if_pos c2]
    ·
      refine wCF 13 9 i97_6 rfl (decide_eq_false c2) rfl ?_
      refine wK 10 1 i97_9 (by decide) rfl ?_
      refine wGo 14 i97_10 rfl ?_
      refine jRi i97_14 m97 (by decide) ?_
      refine wZT 10 i107_4 rfl (by decide) ?_
      refine wLan 11 i107_10 rfl rfl ?_
      refine wGet 14 (.ref 51) i107_11 f107_54 rfl rfl rfl ?_
      refine wLin 15 i107_14 rfl rfl ?_
      refine jCall 18 [.ref 51, .int (a1)] [] [(0, .ref 51), (1, .int (a1))] i107_15 rfl (xlk0 l107_233) (Or.inl rfl) m33 rfl rfl (Nat.le_of_ble_eq_true rfl) (Nat.le_of_ble_eq_true rfl) (Nat.le_of_ble_eq_true rfl) rfl rfl rfl ?_
      refine wLan 1 i33_0 rfl rfl ?_
      refine wGet 4 (.ref 52) i33_1 f33_9 rfl rfl rfl ?_
      refine wLin 5 i33_4 rfl rfl ?_
      refine wIal 6 i33_5 rfl (x_ib (Int32.not_lt.mp c1) (x_lt1 (z := 3) (Int32.not_le.mp c2) (by decide)) (by decide) (by decide)) rfl ?_
      refine tTop (v := (-1)) (x_sorts (Int32.not_lt.mp c1) (x_lt1 (z := 3) (Int32.not_le.mp c2) (by decide))) ?_
      refine wK 7 (-1) i33_6 (by decide) rfl ?_
      refine wCF 14 10 i33_7 rfl (by decide) rfl ?_
      refine wK 11 1 i33_10 (by decide) rfl ?_
      refine wGo 15 i33_11 rfl ?_
      refine jRi i33_15 m33 (by decide) ?_
      refine wZF 24 21 i107_18 rfl (by decide) rfl ?_
      refine wKb 23 (-11) i107_21 (by decide) rfl ?_
      refine wRi i107_23 m107 rfl ?_
      refine ⟨congrArg (fun z => some (Value.int z)) ?_, xpre_of _ _ rfl, rfl⟩
      rw [sp_put, if_neg c1, if_neg c2]
def sp_item (a1 : Int32) (a2 : Int32) : Int64 := (if (a1) < 0 then (-4611686018427387904) else (if 4 ≤ (a1) then (-4611686018427387904) else (-4611686018427387904)))
set_option maxHeartbeats 4000000 in
set_option maxRecDepth 100000 in
theorem q_item {sc : xS} {d : Nat} (t : xH) (a1 : Int32) (a2 : Int32) : xT xg sc (d + 12) 100 0 [(0, .ref 0), (1, .int (a1)), (2, .int (a2))] [] (hC t) (fun r => r.1 = some (.long (sp_item a1 a2)) ∧ (∃ f, r.2.1 = xpre f t) ∧ r.2.2 = (0, 0)) := by
  refine wLin 1 i100_0 rfl rfl ?_
  refine jCall 4 [.int (a1)] [] [(0, .int (a1))] i100_1 rfl (xlk1 l100_215) (Or.inr (Or.inl rfl)) m97 rfl rfl (Nat.le_of_ble_eq_true rfl) (Nat.le_of_ble_eq_true rfl) (Nat.le_of_ble_eq_true rfl) rfl rfl rfl ?_
  refine wLin 1 i97_0 rfl rfl ?_
  by_cases c1 : (a1) < 0
  ·
    refine wZT 13 i97_1 rfl (decide_eq_true c1) ?_
    refine wK 14 0 i97_13 (by decide) rfl ?_
    refine jRi i97_14 m97 (by decide) ?_
    refine wZT 31 i100_4 rfl (by decide) ?_
    refine wKd 34 (-4611686018427387904) i100_31 c100_133 rfl ?_
    refine wRl i100_34 m100 ?_
    refine ⟨congrArg (fun z => some (Value.long z)) ?_, xpre_of _ _ rfl, rfl⟩
    rw [sp_item, if_pos c1]
  ·
    refine wZF 13 4 i97_1 rfl (decide_eq_false c1) rfl ?_
    refine wLin 5 i97_4 rfl rfl ?_
    refine wK 6 4 i97_5 (by decide) rfl ?_
    by_cases c2 : 4 ≤ (a1)
    ·
      refine wCT 13 i97_6 rfl (decide_eq_true c2) ?_
      refine wK 14 0 i97_13 (by decide) rfl ?_
      refine jRi i97_14 m97 (by decide) ?_
      refine wZT 31 i100_4 rfl (by decide) ?_
      refine wKd 34 (-4611686018427387904) i100_31 c100_133 rfl ?_
      refine wRl i100_34 m100 ?_
      refine ⟨congrArg (fun z => some (Value.long z)) ?_, xpre_of _ _ rfl, rfl⟩
      rw [sp_item, if_neg c1, if_pos c2]
    ·
      refine wCF 13 9 i97_6 rfl (decide_eq_false c2) rfl ?_
      refine wK 10 1 i97_9 (by decide) rfl ?_
      refine wGo 14 i97_10 rfl ?_
      refine jRi i97_14 m97 (by decide) ?_
      refine wZF 31 7 i100_4 rfl (by decide) rfl ?_
      refine wLan 8 i100_7 rfl rfl ?_
      refine wGet 11 (.ref 51) i100_8 f100_54 rfl rfl rfl ?_
      refine wLin 12 i100_11 rfl rfl ?_
      refine jCall 15 [.ref 51, .int (a1)] [] [(0, .ref 51), (1, .int (a1))] i100_12 rfl (xlk0 l100_233) (Or.inl rfl) m33 rfl rfl (Nat.le_of_ble_eq_true rfl) (Nat.le_of_ble_eq_true rfl) (Nat.le_of_ble_eq_true rfl) rfl rfl rfl ?_
      refine wLan 1 i33_0 rfl rfl ?_
      refine wGet 4 (.ref 52) i33_1 f33_9 rfl rfl rfl ?_
      refine wLin 5 i33_4 rfl rfl ?_
      refine wIal 6 i33_5 rfl (x_ib (Int32.not_lt.mp c1) (x_lt1 (z := 3) (Int32.not_le.mp c2) (by decide)) (by decide) (by decide)) rfl ?_
      refine tTop (v := (-1)) (x_sorts (Int32.not_lt.mp c1) (x_lt1 (z := 3) (Int32.not_le.mp c2) (by decide))) ?_
      refine wK 7 (-1) i33_6 (by decide) rfl ?_
      refine wCF 14 10 i33_7 rfl (by decide) rfl ?_
      refine wK 11 1 i33_10 (by decide) rfl ?_
      refine wGo 15 i33_11 rfl ?_
      refine jRi i33_15 m33 (by decide) ?_
      refine wZT 31 i100_15 rfl (by decide) ?_
      refine wKd 34 (-4611686018427387904) i100_31 c100_133 rfl ?_
      refine wRl i100_34 m100 ?_
      refine ⟨congrArg (fun z => some (Value.long z)) ?_, xpre_of _ _ rfl, rfl⟩
      rw [sp_item, if_neg c1, if_neg c2]
def sp_copy (a1 : Int32) (a2 : Int32) (a3 : Int32) (a4 : Int32) (a5 : Int32) : Int32 := (if (a1) < 0 then (-2) else (if 4 ≤ (a1) then (-2) else (if (a3) < 0 then (-2) else (if 4 ≤ (a3) then (-2) else (-11)))))
set_option maxHeartbeats 4000000 in
set_option maxRecDepth 100000 in
theorem q_copy {sc : xS} {d : Nat} (t : xH) (a1 : Int32) (a2 : Int32) (a3 : Int32) (a4 : Int32) (a5 : Int32) : xT xg sc (d + 12) 80 0 [(0, .ref 0), (1, .int (a1)), (2, .int (a2)), (3, .int (a3)), (4, .int (a4)), (5, .int (a5))] [] (hC t) (fun r => r.1 = some (.int (sp_copy a1 a2 a3 a4 a5)) ∧ (∃ f, r.2.1 = xpre f t) ∧ r.2.2 = (0, 0)) := by
  refine wLin 1 i80_0 rfl rfl ?_
  refine jCall 4 [.int (a1)] [] [(0, .int (a1))] i80_1 rfl (xlk1 l80_215) (Or.inr (Or.inl rfl)) m97 rfl rfl (Nat.le_of_ble_eq_true rfl) (Nat.le_of_ble_eq_true rfl) (Nat.le_of_ble_eq_true rfl) rfl rfl rfl ?_
  refine wLin 1 i97_0 rfl rfl ?_
  by_cases c1 : (a1) < 0
  ·
    refine wZT 13 i97_1 rfl (decide_eq_true c1) ?_
    refine wK 14 0 i97_13 (by decide) rfl ?_
    refine jRi i97_14 m97 (by decide) ?_
    refine wZT 14 i80_4 rfl (by decide) ?_
    refine wKb 16 (-2) i80_14 (by decide) rfl ?_
    refine wRi i80_16 m80 rfl ?_
    refine ⟨congrArg (fun z => some (Value.int z)) ?_, xpre_of _ _ rfl, rfl⟩
    rw [sp_copy, if_pos c1]
  ·
    refine wZF 13 4 i97_1 rfl (decide_eq_false c1) rfl ?_
    refine wLin 5 i97_4 rfl rfl ?_
    refine wK 6 4 i97_5 (by decide) rfl ?_
    by_cases c2 : 4 ≤ (a1)
    ·
      refine wCT 13 i97_6 rfl (decide_eq_true c2) ?_
      refine wK 14 0 i97_13 (by decide) rfl ?_
      refine jRi i97_14 m97 (by decide) ?_
      refine wZT 14 i80_4 rfl (by decide) ?_
      refine wKb 16 (-2) i80_14 (by decide) rfl ?_
      refine wRi i80_16 m80 rfl ?_
      refine ⟨congrArg (fun z => some (Value.int z)) ?_, xpre_of _ _ rfl, rfl⟩
      rw [sp_copy, if_neg c1, if_pos c2]
    ·
      refine wCF 13 9 i97_6 rfl (decide_eq_false c2) rfl ?_
      refine wK 10 1 i97_9 (by decide) rfl ?_
      refine wGo 14 i97_10 rfl ?_
      refine jRi i97_14 m97 (by decide) ?_
      refine wZF 14 7 i80_4 rfl (by decide) rfl ?_
      refine wLin 8 i80_7 rfl rfl ?_
      refine jCall 11 [.int (a3)] [] [(0, .int (a3))] i80_8 rfl (xlk1 l80_215) (Or.inr (Or.inl rfl)) m97 rfl rfl (Nat.le_of_ble_eq_true rfl) (Nat.le_of_ble_eq_true rfl) (Nat.le_of_ble_eq_true rfl) rfl rfl rfl ?_
      refine wLin 1 i97_0 rfl rfl ?_
      by_cases c3 : (a3) < 0
      ·
        refine wZT 13 i97_1 rfl (decide_eq_true c3) ?_
        refine wK 14 0 i97_13 (by decide) rfl ?_
        refine jRi i97_14 m97 (by decide) ?_
        refine wZF 17 14 i80_11 rfl (by decide) rfl ?_
        refine wKb 16 (-2) i80_14 (by decide) rfl ?_
        refine wRi i80_16 m80 rfl ?_
        refine ⟨congrArg (fun z => some (Value.int z)) ?_, xpre_of _ _ rfl, rfl⟩
        rw [sp_copy, if_neg c1, if_neg c2, if_pos c3]
      ·
        refine wZF 13 4 i97_1 rfl (decide_eq_false c3) rfl ?_
        refine wLin 5 i97_4 rfl rfl ?_
        refine wK 6 4 i97_5 (by decide) rfl ?_
        by_cases c4 : 4 ≤ (a3)
        ·
          refine wCT 13 i97_6 rfl (decide_eq_true c4) ?_
          refine wK 14 0 i97_13 (by decide) rfl ?_
          refine jRi i97_14 m97 (by decide) ?_
          refine wZF 17 14 i80_11 rfl (by decide) rfl ?_
          refine wKb 16 (-2) i80_14 (by decide) rfl ?_
          refine wRi i80_16 m80 rfl ?_
          refine ⟨congrArg (fun z => some (Value.int z)) ?_, xpre_of _ _ rfl, rfl⟩
          rw [sp_copy, if_neg c1, if_neg c2, if_neg c3, if_pos c4]
        ·
          refine wCF 13 9 i97_6 rfl (decide_eq_false c4) rfl ?_
          refine wK 10 1 i97_9 (by decide) rfl ?_
          refine wGo 14 i97_10 rfl ?_
          refine jRi i97_14 m97 (by decide) ?_
          refine wZT 17 i80_11 rfl (by decide) ?_
          refine wLan 18 i80_17 rfl rfl ?_
          refine wGet 21 (.ref 51) i80_18 f80_54 rfl rfl rfl ?_
          refine wLin 22 i80_21 rfl rfl ?_
          refine jCall 25 [.ref 51, .int (a1)] [] [(0, .ref 51), (1, .int (a1))] i80_22 rfl (xlk0 l80_233) (Or.inl rfl) m33 rfl rfl (Nat.le_of_ble_eq_true rfl) (Nat.le_of_ble_eq_true rfl) (Nat.le_of_ble_eq_true rfl) rfl rfl rfl ?_
          refine wLan 1 i33_0 rfl rfl ?_
          refine wGet 4 (.ref 52) i33_1 f33_9 rfl rfl rfl ?_
          refine wLin 5 i33_4 rfl rfl ?_
          refine wIal 6 i33_5 rfl (x_ib (Int32.not_lt.mp c1) (x_lt1 (z := 3) (Int32.not_le.mp c2) (by decide)) (by decide) (by decide)) rfl ?_
          refine tTop (v := (-1)) (x_sorts (Int32.not_lt.mp c1) (x_lt1 (z := 3) (Int32.not_le.mp c2) (by decide))) ?_
          refine wK 7 (-1) i33_6 (by decide) rfl ?_
          refine wCF 14 10 i33_7 rfl (by decide) rfl ?_
          refine wK 11 1 i33_10 (by decide) rfl ?_
          refine wGo 15 i33_11 rfl ?_
          refine jRi i33_15 m33 (by decide) ?_
          refine wZT 39 i80_25 rfl (by decide) ?_
          refine wKb 41 (-11) i80_39 (by decide) rfl ?_
          refine wRi i80_41 m80 rfl ?_
          refine ⟨congrArg (fun z => some (Value.int z)) ?_, xpre_of _ _ rfl, rfl⟩
          rw [sp_copy, if_neg c1, if_neg c2, if_neg c3, if_neg c4]
def sp_lay (a1 : Int32) (a2 : Int32) (a3 : Int32) (a4 : Int32) (a5 : Int32) : Int32 := (if (a1) < 0 then (-2) else (if 4 ≤ (a1) then (-2) else (if (a2) < 0 then (-2) else (if 8 ≤ (a2) then (-2) else (if (a3) < 0 then (-2) else (if 2 < (a3) then (-2) else (if (a5) < 1 then (-2) else (if (a5) ≤ 8 then (-11) else (-2)))))))))
set_option maxHeartbeats 4000000 in
set_option maxRecDepth 100000 in
theorem q_lay {sc : xS} {d : Nat} (t : xH) (a1 : Int32) (a2 : Int32) (a3 : Int32) (a4 : Int32) (a5 : Int32) : xT xg sc (d + 12) 101 0 [(0, .ref 0), (1, .int (a1)), (2, .int (a2)), (3, .int (a3)), (4, .int (a4)), (5, .int (a5))] [] (hC t) (fun r => r.1 = some (.int (sp_lay a1 a2 a3 a4 a5)) ∧ (∃ f, r.2.1 = xpre f t) ∧ r.2.2 = (0, 0)) := by
  refine wLin 1 i101_0 rfl rfl ?_
  refine jCall 4 [.int (a1)] [] [(0, .int (a1))] i101_1 rfl (xlk1 l101_215) (Or.inr (Or.inl rfl)) m97 rfl rfl (Nat.le_of_ble_eq_true rfl) (Nat.le_of_ble_eq_true rfl) (Nat.le_of_ble_eq_true rfl) rfl rfl rfl ?_
  refine wLin 1 i97_0 rfl rfl ?_
  by_cases c1 : (a1) < 0
  ·
    refine wZT 13 i97_1 rfl (decide_eq_true c1) ?_
    refine wK 14 0 i97_13 (by decide) rfl ?_
    refine jRi i97_14 m97 (by decide) ?_
    refine wZT 14 i101_4 rfl (by decide) ?_
    refine wKb 16 (-2) i101_14 (by decide) rfl ?_
    refine wRi i101_16 m101 rfl ?_
    refine ⟨congrArg (fun z => some (Value.int z)) ?_, xpre_of _ _ rfl, rfl⟩
    rw [sp_lay, if_pos c1]
  ·
    refine wZF 13 4 i97_1 rfl (decide_eq_false c1) rfl ?_
    refine wLin 5 i97_4 rfl rfl ?_
    refine wK 6 4 i97_5 (by decide) rfl ?_
    by_cases c2 : 4 ≤ (a1)
    ·
      refine wCT 13 i97_6 rfl (decide_eq_true c2) ?_
      refine wK 14 0 i97_13 (by decide) rfl ?_
      refine jRi i97_14 m97 (by decide) ?_
      refine wZT 14 i101_4 rfl (by decide) ?_
      refine wKb 16 (-2) i101_14 (by decide) rfl ?_
      refine wRi i101_16 m101 rfl ?_
      refine ⟨congrArg (fun z => some (Value.int z)) ?_, xpre_of _ _ rfl, rfl⟩
      rw [sp_lay, if_neg c1, if_pos c2]
    ·
      refine wCF 13 9 i97_6 rfl (decide_eq_false c2) rfl ?_
      refine wK 10 1 i97_9 (by decide) rfl ?_
      refine wGo 14 i97_10 rfl ?_
      refine jRi i97_14 m97 (by decide) ?_
      refine wZF 14 7 i101_4 rfl (by decide) rfl ?_
      refine wLin 8 i101_7 rfl rfl ?_
      refine jCall 11 [.int (a2)] [] [(0, .int (a2))] i101_8 rfl (xlk1 l101_86) (Or.inr (Or.inl rfl)) m98 rfl rfl (Nat.le_of_ble_eq_true rfl) (Nat.le_of_ble_eq_true rfl) (Nat.le_of_ble_eq_true rfl) rfl rfl rfl ?_
      refine wLin 1 i98_0 rfl rfl ?_
      by_cases c3 : (a2) < 0
      ·
        refine wZT 14 i98_1 rfl (decide_eq_true c3) ?_
        refine wK 15 0 i98_14 (by decide) rfl ?_
        refine jRi i98_15 m98 (by decide) ?_
        refine wZF 17 14 i101_11 rfl (by decide) rfl ?_
        refine wKb 16 (-2) i101_14 (by decide) rfl ?_
        refine wRi i101_16 m101 rfl ?_
        refine ⟨congrArg (fun z => some (Value.int z)) ?_, xpre_of _ _ rfl, rfl⟩
        rw [sp_lay, if_neg c1, if_neg c2, if_pos c3]
      ·
        refine wZF 14 4 i98_1 rfl (decide_eq_false c3) rfl ?_
        refine wLin 5 i98_4 rfl rfl ?_
        refine wKb 7 8 i98_5 (by decide) rfl ?_
        by_cases c4 : 8 ≤ (a2)
        ·
          refine wCT 14 i98_7 rfl (decide_eq_true c4) ?_
          refine wK 15 0 i98_14 (by decide) rfl ?_
          refine jRi i98_15 m98 (by decide) ?_
          refine wZF 17 14 i101_11 rfl (by decide) rfl ?_
          refine wKb 16 (-2) i101_14 (by decide) rfl ?_
          refine wRi i101_16 m101 rfl ?_
          refine ⟨congrArg (fun z => some (Value.int z)) ?_, xpre_of _ _ rfl, rfl⟩
          rw [sp_lay, if_neg c1, if_neg c2, if_neg c3, if_pos c4]
        ·
          refine wCF 14 10 i98_7 rfl (decide_eq_false c4) rfl ?_
          refine wK 11 1 i98_10 (by decide) rfl ?_
          refine wGo 15 i98_11 rfl ?_
          refine jRi i98_15 m98 (by decide) ?_
          refine wZT 17 i101_11 rfl (by decide) ?_
          refine wLin 18 i101_17 rfl rfl ?_
          by_cases c5 : (a3) < 0
          ·
            refine wZT 39 i101_18 rfl (decide_eq_true c5) ?_
            refine wKb 41 (-2) i101_39 (by decide) rfl ?_
            refine wRi i101_41 m101 rfl ?_
            refine ⟨congrArg (fun z => some (Value.int z)) ?_, xpre_of _ _ rfl, rfl⟩
            rw [sp_lay, if_neg c1, if_neg c2, if_neg c3, if_neg c4, if_pos c5]
          ·
            refine wZF 39 21 i101_18 rfl (decide_eq_false c5) rfl ?_
            refine wLin 22 i101_21 rfl rfl ?_
            refine wK 23 2 i101_22 (by decide) rfl ?_
            by_cases c6 : 2 < (a3)
            ·
              refine wCT 39 i101_23 rfl (decide_eq_true c6) ?_
              refine wKb 41 (-2) i101_39 (by decide) rfl ?_
              refine wRi i101_41 m101 rfl ?_
              refine ⟨congrArg (fun z => some (Value.int z)) ?_, xpre_of _ _ rfl, rfl⟩
              rw [sp_lay, if_neg c1, if_neg c2, if_neg c3, if_neg c4, if_neg c5, if_pos c6]
            ·
              refine wCF 39 26 i101_23 rfl (decide_eq_false c6) rfl ?_
              refine wLi 28 i101_26 rfl rfl ?_
              refine wK 29 1 i101_28 (by decide) rfl ?_
              by_cases c7 : (a5) < 1
              ·
                refine wCT 39 i101_29 rfl (decide_eq_true c7) ?_
                refine wKb 41 (-2) i101_39 (by decide) rfl ?_
                refine wRi i101_41 m101 rfl ?_
                refine ⟨congrArg (fun z => some (Value.int z)) ?_, xpre_of _ _ rfl, rfl⟩
                rw [sp_lay, if_neg c1, if_neg c2, if_neg c3, if_neg c4, if_neg c5, if_neg c6, if_pos c7]
              ·
                refine wCF 39 32 i101_29 rfl (decide_eq_false c7) rfl ?_
                refine wLi 34 i101_32 rfl rfl ?_
                refine wKb 36 8 i101_34 (by decide) rfl ?_
                by_cases c8 : (a5) ≤ 8
                ·
                  refine wCT 42 i101_36 rfl (decide_eq_true c8) ?_
                  refine wLan 43 i101_42 rfl rfl ?_
                  refine wGet 46 (.ref 51) i101_43 f101_54 rfl rfl rfl ?_
                  refine wLin 47 i101_46 rfl rfl ?_
                  refine jCall 50 [.ref 51, .int (a1)] [] [(0, .ref 51), (1, .int (a1))] i101_47 rfl (xlk0 l101_233) (Or.inl rfl) m33 rfl rfl (Nat.le_of_ble_eq_true rfl) (Nat.le_of_ble_eq_true rfl) (Nat.le_of_ble_eq_true rfl) rfl rfl rfl ?_
                  refine wLan 1 i33_0 rfl rfl ?_
                  refine wGet 4 (.ref 52) i33_1 f33_9 rfl rfl rfl ?_
                  refine wLin 5 i33_4 rfl rfl ?_
                  refine wIal 6 i33_5 rfl (x_ib (Int32.not_lt.mp c1) (x_lt1 (z := 3) (Int32.not_le.mp c2) (by decide)) (by decide) (by decide)) rfl ?_
                  refine tTop (v := (-1)) (x_sorts (Int32.not_lt.mp c1) (x_lt1 (z := 3) (Int32.not_le.mp c2) (by decide))) ?_
                  refine wK 7 (-1) i33_6 (by decide) rfl ?_
                  refine wCF 14 10 i33_7 rfl (by decide) rfl ?_
                  refine wK 11 1 i33_10 (by decide) rfl ?_
                  refine wGo 15 i33_11 rfl ?_
                  refine jRi i33_15 m33 (by decide) ?_
                  refine wZT 69 i101_50 rfl (by decide) ?_
                  refine wLan 70 i101_69 rfl rfl ?_
                  refine wGet 73 (.ref 51) i101_70 f101_54 rfl rfl rfl ?_
                  refine wLin 74 i101_73 rfl rfl ?_
                  refine jCall 77 [.ref 51, .int (a1)] [] [(0, .ref 51), (1, .int (a1))] i101_74 rfl (xlk0 l101_233) (Or.inl rfl) m33 rfl rfl (Nat.le_of_ble_eq_true rfl) (Nat.le_of_ble_eq_true rfl) (Nat.le_of_ble_eq_true rfl) rfl rfl rfl ?_
                  refine wLan 1 i33_0 rfl rfl ?_
                  refine wGet 4 (.ref 52) i33_1 f33_9 rfl rfl rfl ?_
                  refine wLin 5 i33_4 rfl rfl ?_
                  refine wIal 6 i33_5 rfl (x_ib (Int32.not_lt.mp c1) (x_lt1 (z := 3) (Int32.not_le.mp c2) (by decide)) (by decide) (by decide)) rfl ?_
                  refine tTop (v := (-1)) (x_sorts (Int32.not_lt.mp c1) (x_lt1 (z := 3) (Int32.not_le.mp c2) (by decide))) ?_
                  refine wK 7 (-1) i33_6 (by decide) rfl ?_
                  refine wCF 14 10 i33_7 rfl (by decide) rfl ?_
                  refine wK 11 1 i33_10 (by decide) rfl ?_
                  refine wGo 15 i33_11 rfl ?_
                  refine jRi i33_15 m33 (by decide) ?_
                  refine wZF 83 80 i101_77 rfl (by decide) rfl ?_
                  refine wKb 82 (-11) i101_80 (by decide) rfl ?_
                  refine wRi i101_82 m101 rfl ?_
                  refine ⟨congrArg (fun z => some (Value.int z)) ?_, xpre_of _ _ rfl, rfl⟩
                  rw [sp_lay, if_neg c1, if_neg c2, if_neg c3, if_neg c4, if_neg c5, if_neg c6, if_neg c7, if_pos c8]
                ·
                  refine wCF 42 39 i101_36 rfl (decide_eq_false c8) rfl ?_
                  refine wKb 41 (-2) i101_39 (by decide) rfl ?_
                  refine wRi i101_41 m101 rfl ?_
                  refine ⟨congrArg (fun z => some (Value.int z)) ?_, xpre_of _ _ rfl, rfl⟩
                  rw [sp_lay, if_neg c1, if_neg c2, if_neg c3, if_neg c4, if_neg c5, if_neg c6, if_neg c7, if_neg c8]
