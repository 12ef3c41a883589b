theorem i73_97 : xIns xg 73 97 = some (.iload_n 2) := by decide +kernel
theorem i73_98 : xIns xg 73 98 = some (.iload_n 1) := by decide +kernel
theorem i73_99 : xIns xg 73 99 = some (.if_icmp .ge 16) := by decide +kernel
theorem i73_102 : xIns xg 73 102 = some (.aload_n 0) := by decide +kernel
theorem i73_103 : xIns xg 73 103 = some (.getfield 22) := by decide +kernel
theorem i73_106 : xIns xg 73 106 = some (.iload_n 2) := by decide +kernel
theorem i73_107 : xIns xg 73 107 = some (.iconst 1) := by decide +kernel
theorem i73_108 : xIns xg 73 108 = some (.iastore) := by decide +kernel
theorem i73_109 : xIns xg 73 109 = some (.iinc 2 1) := by decide +kernel
theorem i73_112 : xIns xg 73 112 = some (.goto (-15)) := by decide +kernel
theorem i73_115 : xIns xg 73 115 = some (.return_) := by decide +kernel
theorem m73 : (xMet xg 73).2.2 = (3, none) := by decide +kernel
theorem f73_22 : xFld xg 73 22 = some (5, 2) := by decide +kernel
theorem i66_0 : xIns xg 66 0 = some (.aload_n 0) := by decide +kernel
theorem i66_1 : xIns xg 66 1 = some (.invokespecial 3) := by decide +kernel
theorem l66_3 : xMth xg 66 3 = some (6, 0, 0, 0) := by decide +kernel
theorem i66_4 : xIns xg 66 4 = some (.iload_n 1) := by decide +kernel
theorem i66_5 : xIns xg 66 5 = some (.bipush 24) := by decide +kernel
theorem i66_7 : xIns xg 66 7 = some (.imul) := by decide +kernel
theorem i66_8 : xIns xg 66 8 = some (.istore_n 2) := by decide +kernel
theorem m66 : (xMet xg 66).2.2 = (3, none) := by decide +kernel
theorem i66_9 : xIns xg 66 9 = some (.aload_n 0) := by decide +kernel
theorem i66_10 : xIns xg 66 10 = some (.iload_n 1) := by decide +kernel
theorem i66_11 : xIns xg 66 11 = some (.newarray .int) := by decide +kernel
theorem i66_13 : xIns xg 66 13 = some (.putfield 9) := by decide +kernel
theorem p66_9 : xPut xg 66 9 = some (4, 0, (.array .int)) := by decide +kernel
theorem i66_16 : xIns xg 66 16 = some (.aload_n 0) := by decide +kernel
theorem i66_17 : xIns xg 66 17 = some (.iload_n 2) := by decide +kernel
theorem i66_18 : xIns xg 66 18 = some (.newarray .int) := by decide +kernel
theorem i66_20 : xIns xg 66 20 = some (.putfield 15) := by decide +kernel
theorem p66_15 : xPut xg 66 15 = some (4, 1, (.array .int)) := by decide +kernel
theorem i66_23 : xIns xg 66 23 = some (.aload_n 0) := by decide +kernel
theorem i66_24 : xIns xg 66 24 = some (.iload_n 2) := by decide +kernel
theorem i66_25 : xIns xg 66 25 = some (.newarray .int) := by decide +kernel
theorem i66_27 : xIns xg 66 27 = some (.putfield 18) := by decide +kernel
theorem p66_18 : xPut xg 66 18 = some (4, 2, (.array .int)) := by decide +kernel
theorem i66_30 : xIns xg 66 30 = some (.aload_n 0) := by decide +kernel
theorem i66_31 : xIns xg 66 31 = some (.iload_n 2) := by decide +kernel
theorem i66_32 : xIns xg 66 32 = some (.newarray .int) := by decide +kernel
theorem i66_34 : xIns xg 66 34 = some (.putfield 21) := by decide +kernel
theorem p66_21 : xPut xg 66 21 = some (4, 3, (.array .int)) := by decide +kernel
theorem i66_37 : xIns xg 66 37 = some (.aload_n 0) := by decide +kernel
theorem i66_38 : xIns xg 66 38 = some (.iload_n 2) := by decide +kernel
theorem i66_39 : xIns xg 66 39 = some (.newarray .int) := by decide +kernel
theorem i66_41 : xIns xg 66 41 = some (.putfield 24) := by decide +kernel
theorem p66_24 : xPut xg 66 24 = some (4, 4, (.array .int)) := by decide +kernel
theorem i66_44 : xIns xg 66 44 = some (.aload_n 0) := by decide +kernel
theorem i66_45 : xIns xg 66 45 = some (.iload_n 2) := by decide +kernel
theorem i66_46 : xIns xg 66 46 = some (.newarray .int) := by decide +kernel
theorem i66_48 : xIns xg 66 48 = some (.putfield 27) := by decide +kernel
theorem p66_27 : xPut xg 66 27 = some (4, 5, (.array .int)) := by decide +kernel
theorem i66_51 : xIns xg 66 51 = some (.aload_n 0) := by decide +kernel
theorem i66_52 : xIns xg 66 52 = some (.iload_n 2) := by decide +kernel
theorem i66_53 : xIns xg 66 53 = some (.newarray .int) := by decide +kernel
theorem i66_55 : xIns xg 66 55 = some (.putfield 30) := by decide +kernel
theorem p66_30 : xPut xg 66 30 = some (4, 6, (.array .int)) := by decide +kernel
theorem i66_58 : xIns xg 66 58 = some (.aload_n 0) := by decide +kernel
theorem i66_59 : xIns xg 66 59 = some (.iload_n 2) := by decide +kernel
theorem i66_60 : xIns xg 66 60 = some (.bipush 8) := by decide +kernel
theorem i66_62 : xIns xg 66 62 = some (.imul) := by decide +kernel
theorem i66_63 : xIns xg 66 63 = some (.newarray .long) := by decide +kernel
theorem i66_65 : xIns xg 66 65 = some (.putfield 33) := by decide +kernel
theorem p66_33 : xPut xg 66 33 = some (4, 7, (.array .long)) := by decide +kernel
theorem i66_68 : xIns xg 66 68 = some (.return_) := by decide +kernel
theorem i17_0 : xIns xg 17 0 = some (.aload_n 0) := by decide +kernel
theorem i17_1 : xIns xg 17 1 = some (.invokespecial 3) := by decide +kernel
theorem l17_3 : xMth xg 17 3 = some (6, 0, 0, 0) := by decide +kernel
theorem i17_4 : xIns xg 17 4 = some (.aload_n 0) := by decide +kernel
theorem i17_5 : xIns xg 17 5 = some (.new 9) := by decide +kernel
theorem n17_9 : xCls xg 17 9 = some 4 := by decide +kernel
theorem i17_8 : xIns xg 17 8 = some (.dup) := by decide +kernel
theorem i17_9 : xIns xg 17 9 = some (.iconst 1) := by decide +kernel
theorem i17_10 : xIns xg 17 10 = some (.invokespecial 11) := by decide +kernel
theorem l17_11 : xMth xg 17 11 = some (4, 66, 2, 4) := by decide +kernel
theorem i17_13 : xIns xg 17 13 = some (.putfield 14) := by decide +kernel
theorem p17_14 : xPut xg 17 14 = some (1, 0, (.object "LateRows$Texts")) := by decide +kernel
theorem i17_16 : xIns xg 17 16 = some (.aload_n 0) := by decide +kernel
theorem i17_17 : xIns xg 17 17 = some (.iconst 0) := by decide +kernel
theorem i17_18 : xIns xg 17 18 = some (.putfield 20) := by decide +kernel
theorem p17_20 : xPut xg 17 20 = some (1, 1, .int) := by decide +kernel
theorem i17_21 : xIns xg 17 21 = some (.aload_n 0) := by decide +kernel
theorem i17_22 : xIns xg 17 22 = some (.bipush 120) := by decide +kernel
theorem i17_24 : xIns xg 17 24 = some (.newarray .int) := by decide +kernel
theorem i17_26 : xIns xg 17 26 = some (.putfield 24) := by decide +kernel
theorem p17_24 : xPut xg 17 24 = some (1, 2, (.array .int)) := by decide +kernel
theorem i17_29 : xIns xg 17 29 = some (.aload_n 0) := by decide +kernel
theorem i17_30 : xIns xg 17 30 = some (.bipush 121) := by decide +kernel
theorem i17_32 : xIns xg 17 32 = some (.newarray .int) := by decide +kernel
theorem i17_34 : xIns xg 17 34 = some (.putfield 28) := by decide +kernel
theorem p17_28 : xPut xg 17 28 = some (1, 3, (.array .int)) := by decide +kernel
theorem i17_37 : xIns xg 17 37 = some (.aload_n 0) := by decide +kernel
theorem i17_38 : xIns xg 17 38 = some (.bipush 121) := by decide +kernel
theorem i17_40 : xIns xg 17 40 = some (.newarray .int) := by decide +kernel
theorem i17_42 : xIns xg 17 42 = some (.putfield 31) := by decide +kernel
theorem p17_31 : xPut xg 17 31 = some (1, 4, (.array .int)) := by decide +kernel
theorem i17_45 : xIns xg 17 45 = some (.aload_n 0) := by decide +kernel
theorem i17_46 : xIns xg 17 46 = some (.bipush 121) := by decide +kernel
theorem i17_48 : xIns xg 17 48 = some (.newarray .int) := by decide +kernel
theorem i17_50 : xIns xg 17 50 = some (.putfield 34) := by decide +kernel
theorem p17_34 : xPut xg 17 34 = some (1, 5, (.array .int)) := by decide +kernel
theorem i17_53 : xIns xg 17 53 = some (.aload_n 0) := by decide +kernel
theorem i17_54 : xIns xg 17 54 = some (.iconst 0) := by decide +kernel
theorem i17_55 : xIns xg 17 55 = some (.putfield 37) := by decide +kernel
theorem p17_37 : xPut xg 17 37 = some (1, 6, .int) := by decide +kernel
theorem i17_58 : xIns xg 17 58 = some (.aload_n 0) := by decide +kernel
theorem i17_59 : xIns xg 17 59 = some (.iconst (-1)) := by decide +kernel
theorem i17_60 : xIns xg 17 60 = some (.putfield 40) := by decide +kernel
theorem p17_40 : xPut xg 17 40 = some (1, 7, .int) := by decide +kernel
theorem i17_63 : xIns xg 17 63 = some (.return_) := by decide +kernel
theorem m17 : (xMet xg 17).2.2 = (1, none) := by decide +kernel
theorem i6_0 : xIns xg 6 0 = some (.aload_n 0) := by decide +kernel
theorem i6_1 : xIns xg 6 1 = some (.invokespecial 3) := by decide +kernel
theorem l6_3 : xMth xg 6 3 = some (6, 0, 0, 0) := by decide +kernel
theorem i6_4 : xIns xg 6 4 = some (.aload_n 0) := by decide +kernel
theorem i6_5 : xIns xg 6 5 = some (.sipush 1024) := by decide +kernel
theorem i6_8 : xIns xg 6 8 = some (.newarray .int) := by decide +kernel
theorem i6_10 : xIns xg 6 10 = some (.putfield 11) := by decide +kernel
theorem p6_11 : xPut xg 6 11 = some (0, 0, (.array .int)) := by decide +kernel
theorem i6_13 : xIns xg 6 13 = some (.aload_n 0) := by decide +kernel
theorem i6_14 : xIns xg 6 14 = some (.iconst 0) := by decide +kernel
theorem i6_15 : xIns xg 6 15 = some (.putfield 15) := by decide +kernel
theorem p6_15 : xPut xg 6 15 = some (0, 1, .int) := by decide +kernel
theorem i6_18 : xIns xg 6 18 = some (.return_) := by decide +kernel
theorem m6 : (xMet xg 6).2.2 = (1, none) := by decide +kernel
theorem i73_0 : xIns xg 73 0 = some (.aload_n 0) := by decide +kernel
theorem i73_1 : xIns xg 73 1 = some (.invokespecial 3) := by decide +kernel
theorem l73_3 : xMth xg 73 3 = some (6, 0, 0, 0) := by decide +kernel
theorem i73_4 : xIns xg 73 4 = some (.aload_n 0) := by decide +kernel
theorem i73_5 : xIns xg 73 5 = some (.iconst 0) := by decide +kernel
theorem i73_6 : xIns xg 73 6 = some (.putfield 9) := by decide +kernel
theorem p73_9 : xPut xg 73 9 = some (5, 11, .int) := by decide +kernel
theorem i73_9 : xIns xg 73 9 = some (.aload_n 0) := by decide +kernel
theorem i73_10 : xIns xg 73 10 = some (.iload_n 1) := by decide +kernel
theorem i73_11 : xIns xg 73 11 = some (.newarray .int) := by decide +kernel
theorem i73_13 : xIns xg 73 13 = some (.putfield 15) := by decide +kernel
theorem p73_15 : xPut xg 73 15 = some (5, 0, (.array .int)) := by decide +kernel
theorem i73_16 : xIns xg 73 16 = some (.aload_n 0) := by decide +kernel
theorem i73_17 : xIns xg 73 17 = some (.iload_n 1) := by decide +kernel
theorem i73_18 : xIns xg 73 18 = some (.newarray .int) := by decide +kernel
theorem i73_20 : xIns xg 73 20 = some (.putfield 19) := by decide +kernel
theorem p73_19 : xPut xg 73 19 = some (5, 1, (.array .int)) := by decide +kernel
theorem i73_23 : xIns xg 73 23 = some (.aload_n 0) := by decide +kernel
theorem i73_24 : xIns xg 73 24 = some (.iload_n 1) := by decide +kernel
theorem i73_25 : xIns xg 73 25 = some (.newarray .int) := by decide +kernel
theorem i73_27 : xIns xg 73 27 = some (.putfield 22) := by decide +kernel
theorem p73_22 : xPut xg 73 22 = some (5, 2, (.array .int)) := by decide +kernel
theorem i73_30 : xIns xg 73 30 = some (.aload_n 0) := by decide +kernel
theorem i73_31 : xIns xg 73 31 = some (.iload_n 1) := by decide +kernel
theorem i73_32 : xIns xg 73 32 = some (.newarray .boolean) := by decide +kernel
theorem i73_34 : xIns xg 73 34 = some (.putfield 25) := by decide +kernel
theorem p73_25 : xPut xg 73 25 = some (5, 3, (.array .boolean)) := by decide +kernel
theorem i73_37 : xIns xg 73 37 = some (.aload_n 0) := by decide +kernel
theorem i73_38 : xIns xg 73 38 = some (.iload_n 1) := by decide +kernel
theorem i73_39 : xIns xg 73 39 = some (.newarray .int) := by decide +kernel
theorem i73_41 : xIns xg 73 41 = some (.putfield 29) := by decide +kernel
theorem p73_29 : xPut xg 73 29 = some (5, 4, (.array .int)) := by decide +kernel
theorem i73_44 : xIns xg 73 44 = some (.aload_n 0) := by decide +kernel
theorem i73_45 : xIns xg 73 45 = some (.iload_n 1) := by decide +kernel
theorem i73_46 : xIns xg 73 46 = some (.newarray .int) := by decide +kernel
theorem i73_48 : xIns xg 73 48 = some (.putfield 32) := by decide +kernel
theorem p73_32 : xPut xg 73 32 = some (5, 5, (.array .int)) := by decide +kernel
theorem i73_51 : xIns xg 73 51 = some (.aload_n 0) := by decide +kernel
theorem i73_52 : xIns xg 73 52 = some (.iload_n 1) := by decide +kernel
theorem i73_53 : xIns xg 73 53 = some (.bipush 64) := by decide +kernel
theorem i73_55 : xIns xg 73 55 = some (.imul) := by decide +kernel
theorem i73_56 : xIns xg 73 56 = some (.newarray .byte) := by decide +kernel
theorem i73_58 : xIns xg 73 58 = some (.putfield 35) := by decide +kernel
theorem p73_35 : xPut xg 73 35 = some (5, 6, (.array .byte)) := by decide +kernel
theorem i73_61 : xIns xg 73 61 = some (.aload_n 0) := by decide +kernel
theorem i73_62 : xIns xg 73 62 = some (.iload_n 1) := by decide +kernel
theorem i73_63 : xIns xg 73 63 = some (.bipush 64) := by decide +kernel
theorem i73_65 : xIns xg 73 65 = some (.imul) := by decide +kernel
theorem i73_66 : xIns xg 73 66 = some (.newarray .long) := by decide +kernel
theorem i73_68 : xIns xg 73 68 = some (.putfield 39) := by decide +kernel
theorem p73_39 : xPut xg 73 39 = some (5, 7, (.array .long)) := by decide +kernel
theorem i73_71 : xIns xg 73 71 = some (.aload_n 0) := by decide +kernel
theorem i73_72 : xIns xg 73 72 = some (.iload_n 1) := by decide +kernel
theorem i73_73 : xIns xg 73 73 = some (.bipush 64) := by decide +kernel
theorem i73_75 : xIns xg 73 75 = some (.imul) := by decide +kernel
theorem i73_76 : xIns xg 73 76 = some (.newarray .byte) := by decide +kernel
theorem i73_78 : xIns xg 73 78 = some (.putfield 43) := by decide +kernel
theorem p73_43 : xPut xg 73 43 = some (5, 8, (.array .byte)) := by decide +kernel
theorem i73_81 : xIns xg 73 81 = some (.aload_n 0) := by decide +kernel
theorem i73_82 : xIns xg 73 82 = some (.iload_n 1) := by decide +kernel
theorem i73_83 : xIns xg 73 83 = some (.newarray .boolean) := by decide +kernel
theorem i73_85 : xIns xg 73 85 = some (.putfield 46) := by decide +kernel
theorem p73_46 : xPut xg 73 46 = some (5, 9, (.array .boolean)) := by decide +kernel
theorem i73_88 : xIns xg 73 88 = some (.aload_n 0) := by decide +kernel
theorem i73_89 : xIns xg 73 89 = some (.iload_n 1) := by decide +kernel
theorem i73_90 : xIns xg 73 90 = some (.newarray .int) := by decide +kernel
theorem i73_92 : xIns xg 73 92 = some (.putfield 49) := by decide +kernel
theorem p73_49 : xPut xg 73 49 = some (5, 10, (.array .int)) := by decide +kernel
theorem i73_95 : xIns xg 73 95 = some (.iconst 0) := by decide +kernel
theorem i73_96 : xIns xg 73 96 = some (.istore_n 2) := by decide +kernel
theorem i48_0 : xIns xg 48 0 = some (.aload_n 0) := by decide +kernel
theorem i48_1 : xIns xg 48 1 = some (.invokespecial 3) := by decide +kernel
theorem l48_3 : xMth xg 48 3 = some (6, 0, 0, 0) := by decide +kernel
theorem i48_4 : xIns xg 48 4 = some (.aload_n 0) := by decide +kernel
theorem i48_5 : xIns xg 48 5 = some (.iconst 0) := by decide +kernel
theorem i48_6 : xIns xg 48 6 = some (.putfield 9) := by decide +kernel
theorem p48_9 : xPut xg 48 9 = some (3, 2, .int) := by decide +kernel
theorem i48_9 : xIns xg 48 9 = some (.aload_n 0) := by decide +kernel
theorem i48_10 : xIns xg 48 10 = some (.iconst 0) := by decide +kernel
theorem i48_11 : xIns xg 48 11 = some (.putfield 15) := by decide +kernel
theorem p48_15 : xPut xg 48 15 = some (3, 3, .int) := by decide +kernel
theorem i48_14 : xIns xg 48 14 = some (.aload_n 0) := by decide +kernel
theorem i48_15 : xIns xg 48 15 = some (.lconst 0) := by decide +kernel
theorem i48_16 : xIns xg 48 16 = some (.putfield 18) := by decide +kernel
theorem p48_18 : xPut xg 48 18 = some (3, 4, .long) := by decide +kernel
theorem i48_19 : xIns xg 48 19 = some (.aload_n 0) := by decide +kernel
theorem i48_20 : xIns xg 48 20 = some (.aload_n 1) := by decide +kernel
theorem i48_21 : xIns xg 48 21 = some (.putfield 22) := by decide +kernel
theorem p48_22 : xPut xg 48 22 = some (3, 0, (.object "LateRows$Texts")) := by decide +kernel
theorem i48_24 : xIns xg 48 24 = some (.aload_n 0) := by decide +kernel
theorem i48_25 : xIns xg 48 25 = some (.aload_n 2) := by decide +kernel
theorem i48_26 : xIns xg 48 26 = some (.putfield 26) := by decide +kernel
theorem p48_26 : xPut xg 48 26 = some (3, 1, (.object "LateRows$Told")) := by decide +kernel
theorem i48_29 : xIns xg 48 29 = some (.return_) := by decide +kernel
theorem m48 : (xMet xg 48).2.2 = (3, none) := by decide +kernel
theorem i32_0 : xIns xg 32 0 = some (.aload_n 0) := by decide +kernel
theorem i32_1 : xIns xg 32 1 = some (.invokespecial 3) := by decide +kernel
theorem l32_3 : xMth xg 32 3 = some (6, 0, 0, 0) := by decide +kernel
theorem i32_4 : xIns xg 32 4 = some (.aload_n 0) := by decide +kernel
theorem i32_5 : xIns xg 32 5 = some (.iconst 4) := by decide +kernel
theorem i32_6 : xIns xg 32 6 = some (.newarray .int) := by decide +kernel
theorem i32_8 : xIns xg 32 8 = some (.putfield 9) := by decide +kernel
theorem p32_9 : xPut xg 32 9 = some (2, 0, (.array .int)) := by decide +kernel
theorem i32_11 : xIns xg 32 11 = some (.aload_n 0) := by decide +kernel
theorem i32_12 : xIns xg 32 12 = some (.iconst 4) := by decide +kernel
theorem i32_13 : xIns xg 32 13 = some (.newarray .int) := by decide +kernel
theorem i32_15 : xIns xg 32 15 = some (.putfield 15) := by decide +kernel
theorem p32_15 : xPut xg 32 15 = some (2, 1, (.array .int)) := by decide +kernel
theorem i32_18 : xIns xg 32 18 = some (.aload_n 0) := by decide +kernel
theorem i32_19 : xIns xg 32 19 = some (.sipush 160) := by decide +kernel
theorem i32_22 : xIns xg 32 22 = some (.newarray .long) := by decide +kernel
theorem i32_24 : xIns xg 32 24 = some (.putfield 18) := by decide +kernel
theorem p32_18 : xPut xg 32 18 = some (2, 2, (.array .long)) := by decide +kernel
theorem i32_27 : xIns xg 32 27 = some (.iconst 0) := by decide +kernel
theorem i32_28 : xIns xg 32 28 = some (.istore_n 1) := by decide +kernel
theorem m32 : (xMet xg 32).2.2 = (2, none) := by decide +kernel
theorem i32_29 : xIns xg 32 29 = some (.iload_n 1) := by decide +kernel
theorem i32_30 : xIns xg 32 30 = some (.iconst 4) := by decide +kernel
theorem i32_31 : xIns xg 32 31 = some (.if_icmp .ge 16) := by decide +kernel
theorem i32_34 : xIns xg 32 34 = some (.aload_n 0) := by decide +kernel
theorem i32_35 : xIns xg 32 35 = some (.getfield 9) := by decide +kernel
theorem f32_9 : xFld xg 32 9 = some (2, 0) := by decide +kernel
theorem i32_38 : xIns xg 32 38 = some (.iload_n 1) := by decide +kernel
theorem i32_39 : xIns xg 32 39 = some (.iconst (-1)) := by decide +kernel
theorem i32_40 : xIns xg 32 40 = some (.iastore) := by decide +kernel
theorem i32_41 : xIns xg 32 41 = some (.iinc 1 1) := by decide +kernel
theorem i32_44 : xIns xg 32 44 = some (.goto (-15)) := by decide +kernel
theorem i32_47 : xIns xg 32 47 = some (.return_) := by decide +kernel
theorem i93_0 : xIns xg 93 0 = some (.aload_n 0) := by decide +kernel
theorem i93_1 : xIns xg 93 1 = some (.invokespecial 1) := by decide +kernel
theorem l93_1 : xMth xg 93 1 = some (6, 0, 0, 0) := by decide +kernel
theorem i93_4 : xIns xg 93 4 = some (.aload_n 0) := by decide +kernel
theorem i93_5 : xIns xg 93 5 = some (.new 7) := by decide +kernel
theorem n93_7 : xCls xg 93 7 = some 1 := by decide +kernel
theorem i93_8 : xIns xg 93 8 = some (.dup) := by decide +kernel
theorem i93_9 : xIns xg 93 9 = some (.invokespecial 9) := by decide +kernel
theorem l93_9 : xMth xg 93 9 = some (5, 17, 1, 1) := by decide +kernel
theorem i93_12 : xIns xg 93 12 = some (.putfield 10) := by decide +kernel
theorem p93_10 : xPut xg 93 10 = some (6, 0, (.object "LateRows$Reader")) := by decide +kernel
theorem i93_15 : xIns xg 93 15 = some (.aload_n 0) := by decide +kernel
theorem i93_16 : xIns xg 93 16 = some (.new 16) := by decide +kernel
theorem n93_16 : xCls xg 93 16 = some 0 := by decide +kernel
theorem i93_19 : xIns xg 93 19 = some (.dup) := by decide +kernel
theorem i93_20 : xIns xg 93 20 = some (.invokespecial 18) := by decide +kernel
theorem l93_18 : xMth xg 93 18 = some (5, 6, 1, 0) := by decide +kernel
theorem i93_23 : xIns xg 93 23 = some (.putfield 19) := by decide +kernel
theorem p93_19 : xPut xg 93 19 = some (6, 1, (.object "LateRows$Printer")) := by decide +kernel
theorem i93_26 : xIns xg 93 26 = some (.aload_n 0) := by decide +kernel
theorem i93_27 : xIns xg 93 27 = some (.new 23) := by decide +kernel
theorem n93_23 : xCls xg 93 23 = some 4 := by decide +kernel
theorem i93_30 : xIns xg 93 30 = some (.dup) := by decide +kernel
theorem i93_31 : xIns xg 93 31 = some (.bipush 8) := by decide +kernel
theorem i93_33 : xIns xg 93 33 = some (.invokespecial 25) := by decide +kernel
theorem l93_25 : xMth xg 93 25 = some (4, 66, 2, 4) := by decide +kernel
theorem i93_36 : xIns xg 93 36 = some (.putfield 28) := by decide +kernel
theorem p93_28 : xPut xg 93 28 = some (6, 2, (.object "LateRows$Texts")) := by decide +kernel
theorem i93_39 : xIns xg 93 39 = some (.aload_n 0) := by decide +kernel
theorem i93_40 : xIns xg 93 40 = some (.new 32) := by decide +kernel
theorem n93_32 : xCls xg 93 32 = some 5 := by decide +kernel
theorem i93_43 : xIns xg 93 43 = some (.dup) := by decide +kernel
theorem i93_44 : xIns xg 93 44 = some (.sipush 192) := by decide +kernel
theorem i93_47 : xIns xg 93 47 = some (.invokespecial 34) := by decide +kernel
theorem l93_34 : xMth xg 93 34 = some (4, 73, 2, 5) := by decide +kernel
theorem i93_50 : xIns xg 93 50 = some (.putfield 35) := by decide +kernel
theorem p93_35 : xPut xg 93 35 = some (6, 3, (.object "LateRows$Told")) := by decide +kernel
theorem i93_53 : xIns xg 93 53 = some (.aload_n 0) := by decide +kernel
theorem i93_54 : xIns xg 93 54 = some (.new 32) := by decide +kernel
theorem i93_57 : xIns xg 93 57 = some (.dup) := by decide +kernel
theorem i93_58 : xIns xg 93 58 = some (.sipush 192) := by decide +kernel
theorem i93_61 : xIns xg 93 61 = some (.invokespecial 34) := by decide +kernel
theorem i93_64 : xIns xg 93 64 = some (.putfield 39) := by decide +kernel
theorem p93_39 : xPut xg 93 39 = some (6, 4, (.object "LateRows$Told")) := by decide +kernel
theorem i93_67 : xIns xg 93 67 = some (.aload_n 0) := by decide +kernel
theorem i93_68 : xIns xg 93 68 = some (.new 42) := by decide +kernel
theorem n93_42 : xCls xg 93 42 = some 3 := by decide +kernel
theorem i93_71 : xIns xg 93 71 = some (.dup) := by decide +kernel
theorem i93_72 : xIns xg 93 72 = some (.aload_n 0) := by decide +kernel
theorem i93_73 : xIns xg 93 73 = some (.getfield 28) := by decide +kernel
theorem f93_28 : xFld xg 93 28 = some (6, 2) := by decide +kernel
theorem i93_76 : xIns xg 93 76 = some (.aload_n 0) := by decide +kernel
theorem i93_77 : xIns xg 93 77 = some (.getfield 35) := by decide +kernel
theorem f93_35 : xFld xg 93 35 = some (6, 3) := by decide +kernel
theorem i93_80 : xIns xg 93 80 = some (.invokespecial 44) := by decide +kernel
theorem l93_44 : xMth xg 93 44 = some (4, 48, 3, 3) := by decide +kernel
theorem i93_83 : xIns xg 93 83 = some (.putfield 47) := by decide +kernel
theorem p93_47 : xPut xg 93 47 = some (6, 5, (.object "LateRows$Teller")) := by decide +kernel
theorem i93_86 : xIns xg 93 86 = some (.aload_n 0) := by decide +kernel
theorem i93_87 : xIns xg 93 87 = some (.new 51) := by decide +kernel
theorem n93_51 : xCls xg 93 51 = some 2 := by decide +kernel
theorem i93_90 : xIns xg 93 90 = some (.dup) := by decide +kernel
theorem i93_91 : xIns xg 93 91 = some (.invokespecial 53) := by decide +kernel
theorem l93_53 : xMth xg 93 53 = some (4, 32, 1, 2) := by decide +kernel
theorem i93_94 : xIns xg 93 94 = some (.putfield 54) := by decide +kernel
theorem p93_54 : xPut xg 93 54 = some (6, 6, (.object "LateRows$Sheets")) := by decide +kernel
theorem i93_97 : xIns xg 93 97 = some (.aload_n 0) := by decide +kernel
theorem i93_98 : xIns xg 93 98 = some (.bipush 16) := by decide +kernel
theorem i93_100 : xIns xg 93 100 = some (.newarray .long) := by decide +kernel
theorem i93_102 : xIns xg 93 102 = some (.putfield 58) := by decide +kernel
theorem p93_58 : xPut xg 93 58 = some (6, 7, (.array .long)) := by decide +kernel
theorem i93_105 : xIns xg 93 105 = some (.aload_n 0) := by decide +kernel
theorem i93_106 : xIns xg 93 106 = some (.new 23) := by decide +kernel
theorem i93_109 : xIns xg 93 109 = some (.dup) := by decide +kernel
theorem i93_110 : xIns xg 93 110 = some (.bipush 8) := by decide +kernel
theorem i93_112 : xIns xg 93 112 = some (.invokespecial 25) := by decide +kernel
theorem i93_115 : xIns xg 93 115 = some (.putfield 62) := by decide +kernel
theorem p93_62 : xPut xg 93 62 = some (6, 8, (.object "LateRows$Texts")) := by decide +kernel
theorem i93_118 : xIns xg 93 118 = some (.aload_n 0) := by decide +kernel
theorem i93_119 : xIns xg 93 119 = some (.new 32) := by decide +kernel
theorem i93_122 : xIns xg 93 122 = some (.dup) := by decide +kernel
theorem i93_123 : xIns xg 93 123 = some (.sipush 192) := by decide +kernel
theorem i93_126 : xIns xg 93 126 = some (.invokespecial 34) := by decide +kernel
theorem i93_129 : xIns xg 93 129 = some (.putfield 65) := by decide +kernel
theorem p93_65 : xPut xg 93 65 = some (6, 9, (.object "LateRows$Told")) := by decide +kernel
theorem i93_132 : xIns xg 93 132 = some (.aload_n 0) := by decide +kernel
theorem i93_133 : xIns xg 93 133 = some (.bipush 99) := by decide +kernel
theorem i93_135 : xIns xg 93 135 = some (.putfield 68) := by decide +kernel
theorem p93_68 : xPut xg 93 68 = some (6, 10, .int) := by decide +kernel
theorem i93_138 : xIns xg 93 138 = some (.aload_n 0) := by decide +kernel
theorem i93_139 : xIns xg 93 139 = some (.iconst 0) := by decide +kernel
theorem i93_140 : xIns xg 93 140 = some (.putfield 72) := by decide +kernel
theorem p93_72 : xPut xg 93 72 = some (6, 11, .boolean) := by decide +kernel
theorem i93_143 : xIns xg 93 143 = some (.aload_n 0) := by decide +kernel
theorem i93_144 : xIns xg 93 144 = some (.bipush 99) := by decide +kernel
theorem i93_146 : xIns xg 93 146 = some (.putfield 76) := by decide +kernel
theorem p93_76 : xPut xg 93 76 = some (6, 12, .int) := by decide +kernel
theorem i93_149 : xIns xg 93 149 = some (.aload_n 0) := by decide +kernel
theorem i93_150 : xIns xg 93 150 = some (.iconst 0) := by decide +kernel
theorem i93_151 : xIns xg 93 151 = some (.putfield 79) := by decide +kernel
theorem p93_79 : xPut xg 93 79 = some (6, 13, .int) := by decide +kernel
theorem i93_154 : xIns xg 93 154 = some (.return_) := by decide +kernel
theorem m93 : (xMet xg 93).2.2 = (1, none) := by decide +kernel
def xOne : Nat → Int32 := fun j => if j < 192 then 1 else 0
/-- Told's last loop: the row is filled with 1 -/
theorem told_fill {sc : xS} {d : Nat} {Q : xR → Prop} (o g : Nat) (fs : List Value) (hf : fs[2]? = some (.ref g)) (hog : g ≠ o) : ∀ (n i : Nat) (v : Int32) (h : xH) (f : Nat → Int32), i + n = 192 → v = nI i → h[o]? = some (.inr (5, fs)) → h[g]? = some (.inl (.int, 192, .inl f)) → (∀ j, j < i → f j = 1) → (∀ j, i ≤ j → f j = 0) →
    xT xg sc d 73 115 [(2, .int 192), (0, .ref o), (1, .int 192)] [] (h.set g (.inl (.int, 192, .inl xOne))) Q → xT xg sc d 73 97 [(2, .int v), (0, .ref o), (1, .int 192)] [] h Q := by
  intro n
  induction n with
  | zero =>
    intro i v h f hi hv ho hg h1 h0 k
    obtain rfl : i = 192 := by omega
    have hv : v = 192 := hv
    subst hv
    have hfe : f = xOne := by
      funext j
      unfold xOne
      by_cases hj : j < 192
      · rw [if_pos hj, h1 j hj]
      · rw [if_neg hj, h0 j (by omega)]
    subst hfe
    rw [xset_self hg] at k
    refine wLin 98 i73_97 rfl rfl ?_
    refine wLin 99 i73_98 rfl rfl ?_
    refine wCT 115 i73_99 rfl (by decide) ?_
    exact k
  | succ n ih =>
    intro i v h f hi hv ho hg h1 h0 k
    have hi2 : i < 192 := by omega
    subst hv
    refine wLin 98 i73_97 rfl rfl ?_
    refine wLin 99 i73_98 rfl rfl ?_
    refine wCF 115 102 i73_99 rfl (decide_eq_false (by exact nI_ge (a := i) (b := 192) hi2 (by decide))) rfl ?_
    refine wLan 103 i73_102 rfl rfl ?_
    refine wGet 106 (.ref g) i73_103 f73_22 ho hf rfl ?_
    refine wLin 107 i73_106 rfl rfl ?_
    refine wK 108 1 i73_107 (by decide) rfl ?_
    refine wIas 109 i73_108 hg (xinb hi2 (by decide)) rfl ?_
    refine wInc 112 [(2, .int (nI (i + 1))), (0, .ref o), (1, .int 192)] (nI (i + 1)) i73_109 m73 (by decide) rfl (nI_1 i) rfl rfl ?_
    refine wGo 97 i73_112 rfl ?_
    rw [nI_clamp (by omega)]
    refine ih (i + 1) (nI (i + 1)) _ (upd f i 1) (by omega) rfl (by rw [xset_ne hog]; exact ho) (xset_get hg) (fun j hj => ?_) (fun j hj => ?_) (by rw [List.set_set]; exact k)
    · by_cases hji : j = i
      · subst hji; exact pk_us
      · rw [pk_un hji]; exact h1 j (by omega)
    · rw [pk_un (by omega)]; exact h0 j (by omega)
set_option maxHeartbeats 4000000 in
set_option maxRecDepth 100000 in
theorem k_Texts_2 {sc : xS} {d : Nat} (c0 c1 : xE) : xT xg sc (d + 1) 66 0 [(0, .ref 2), (1, .int 1)] [] [c0, c1, .inr (4, [.null, .null, .null, .null, .null, .null, .null, .null])] (fun r => r = (none, [c0, c1, .inr (4, [.ref 3, .ref 4, .ref 5, .ref 6, .ref 7, .ref 8, .ref 9, .ref 10]), (xI 1), (xI 24), (xI 24), (xI 24), (xI 24), (xI 24), (xI 24), (xJ 192)], 8, 337)) := by
  refine wLan 1 i66_0 rfl rfl ?_
  refine tObj i66_1 l66_3 (by decide) ?_
  refine wLin 5 i66_4 rfl rfl ?_
  refine wKb 7 24 i66_5 (by decide) rfl ?_
  refine wA 8 i66_7 rfl rfl rfl ?_
  refine tTop (v := 24) (by decide) ?_
  refine wSin 9 [(2, .int 24), (0, .ref 2), (1, .int 1)] i66_8 m66 (by decide) rfl rfl ?_
  refine wLan 10 i66_9 rfl rfl ?_
  refine wLin 11 i66_10 rfl rfl ?_
  refine eNewA (n := 3) (N := 1) (c := (xI 1)) 8 337 7 336 i66_11 (by decide) (by decide) rfl rfl rfl rfl ?_
  refine tHeap (h' := [c0, c1, .inr (4, [.null, .null, .null, .null, .null, .null, .null, .null]), (xI 1)]) rfl ?_
  refine wPut 16 i66_13 p66_9 rfl (by decide) rfl rfl rfl ?_
  refine tHeap (h' := [c0, c1, .inr (4, [.ref 3, .null, .null, .null, .null, .null, .null, .null]), (xI 1)]) rfl ?_
  refine wLan 17 i66_16 rfl rfl ?_
  refine wLin 18 i66_17 rfl rfl ?_
  refine eNewA (n := 4) (N := 24) (c := (xI 24)) 7 336 6 312 i66_18 (by decide) (by decide) rfl rfl rfl rfl ?_
  refine tHeap (h' := [c0, c1, .inr (4, [.ref 3, .null, .null, .null, .null, .null, .null, .null]), (xI 1), (xI 24)]) rfl ?_
  refine wPut 23 i66_20 p66_15 rfl (by decide) rfl rfl rfl ?_
  refine tHeap (h' := [c0, c1, .inr (4, [.ref 3, .ref 4, .null, .null, .null, .null, .null, .null]), (xI 1), (xI 24)]) rfl ?_
  refine wLan 24 i66_23 rfl rfl ?_
  refine wLin 25 i66_24 rfl rfl ?_
  refine eNewA (n := 5) (N := 24) (c := (xI 24)) 6 312 5 288 i66_25 (by decide) (by decide) rfl rfl rfl rfl ?_
  refine tHeap (h' := [c0, c1, .inr (4, [.ref 3, .ref 4, .null, .null, .null, .null, .null, .null]), (xI 1), (xI 24), (xI 24)]) rfl ?_
  refine wPut 30 i66_27 p66_18 rfl (by decide) rfl rfl rfl ?_
  refine tHeap (h' := [c0, c1, .inr (4, [.ref 3, .ref 4, .ref 5, .null, .null, .null, .null, .null]), (xI 1), (xI 24), (xI 24)]) rfl ?_
  refine wLan 31 i66_30 rfl rfl ?_
  refine wLin 32 i66_31 rfl rfl ?_
  refine eNewA (n := 6) (N := 24) (c := (xI 24)) 5 288 4 264 i66_32 (by decide) (by decide) rfl rfl rfl rfl ?_
  refine tHeap (h' := [c0, c1, .inr (4, [.ref 3, .ref 4, .ref 5, .null, .null, .null, .null, .null]), (xI 1), (xI 24), (xI 24), (xI 24)]) rfl ?_
  refine wPut 37 i66_34 p66_21 rfl (by decide) rfl rfl rfl ?_
  refine tHeap (h' := [c0, c1, .inr (4, [.ref 3, .ref 4, .ref 5, .ref 6, .null, .null, .null, .null]), (xI 1), (xI 24), (xI 24), (xI 24)]) rfl ?_
  refine wLan 38 i66_37 rfl rfl ?_
  refine wLin 39 i66_38 rfl rfl ?_
  refine eNewA (n := 7) (N := 24) (c := (xI 24)) 4 264 3 240 i66_39 (by decide) (by decide) rfl rfl rfl rfl ?_
  refine tHeap (h' := [c0, c1, .inr (4, [.ref 3, .ref 4, .ref 5, .ref 6, .null, .null, .null, .null]), (xI 1), (xI 24), (xI 24), (xI 24), (xI 24)]) rfl ?_
  refine wPut 44 i66_41 p66_24 rfl (by decide) rfl rfl rfl ?_
  refine tHeap (h' := [c0, c1, .inr (4, [.ref 3, .ref 4, .ref 5, .ref 6, .ref 7, .null, .null, .null]), (xI 1), (xI 24), (xI 24), (xI 24), (xI 24)]) rfl ?_
  refine wLan 45 i66_44 rfl rfl ?_
  refine wLin 46 i66_45 rfl rfl ?_
  refine eNewA (n := 8) (N := 24) (c := (xI 24)) 3 240 2 216 i66_46 (by decide) (by decide) rfl rfl rfl rfl ?_
  refine tHeap (h' := [c0, c1, .inr (4, [.ref 3, .ref 4, .ref 5, .ref 6, .ref 7, .null, .null, .null]), (xI 1), (xI 24), (xI 24), (xI 24), (xI 24), (xI 24)]) rfl ?_
  refine wPut 51 i66_48 p66_27 rfl (by decide) rfl rfl rfl ?_
  refine tHeap (h' := [c0, c1, .inr (4, [.ref 3, .ref 4, .ref 5, .ref 6, .ref 7, .ref 8, .null, .null]), (xI 1), (xI 24), (xI 24), (xI 24), (xI 24), (xI 24)]) rfl ?_
  refine wLan 52 i66_51 rfl rfl ?_
  refine wLin 53 i66_52 rfl rfl ?_
  refine eNewA (n := 9) (N := 24) (c := (xI 24)) 2 216 1 192 i66_53 (by decide) (by decide) rfl rfl rfl rfl ?_
  refine tHeap (h' := [c0, c1, .inr (4, [.ref 3, .ref 4, .ref 5, .ref 6, .ref 7, .ref 8, .null, .null]), (xI 1), (xI 24), (xI 24), (xI 24), (xI 24), (xI 24), (xI 24)]) rfl ?_
  refine wPut 58 i66_55 p66_30 rfl (by decide) rfl rfl rfl ?_
  refine tHeap (h' := [c0, c1, .inr (4, [.ref 3, .ref 4, .ref 5, .ref 6, .ref 7, .ref 8, .ref 9, .null]), (xI 1), (xI 24), (xI 24), (xI 24), (xI 24), (xI 24), (xI 24)]) rfl ?_
  refine wLan 59 i66_58 rfl rfl ?_
  refine wLin 60 i66_59 rfl rfl ?_
  refine wKb 62 8 i66_60 (by decide) rfl ?_
  refine wA 63 i66_62 rfl rfl rfl ?_
  refine tTop (v := 192) (by decide) ?_
  refine eNewA (n := 10) (N := 192) (c := (xJ 192)) 1 192 0 0 i66_63 (by decide) (by decide) rfl rfl rfl rfl ?_
  refine tHeap (h' := [c0, c1, .inr (4, [.ref 3, .ref 4, .ref 5, .ref 6, .ref 7, .ref 8, .ref 9, .null]), (xI 1), (xI 24), (xI 24), (xI 24), (xI 24), (xI 24), (xI 24), (xJ 192)]) rfl ?_
  refine wPut 68 i66_65 p66_33 rfl (by decide) rfl rfl rfl ?_
  refine tHeap (h' := [c0, c1, .inr (4, [.ref 3, .ref 4, .ref 5, .ref 6, .ref 7, .ref 8, .ref 9, .ref 10]), (xI 1), (xI 24), (xI 24), (xI 24), (xI 24), (xI 24), (xI 24), (xJ 192)]) rfl ?_
  refine wR0 i66_68 m66 ?_
  exact rfl
set_option maxHeartbeats 4000000 in
set_option maxRecDepth 100000 in
theorem k_Reader_1 {sc : xS} {d : Nat} (c0 : xE) : xT xg sc (d + 2) 17 0 [(0, .ref 1)] [] [c0, .inr (1, [.null, .int 0, .null, .null, .null, .null, .int 0, .int 0])] (fun r => r = (none, [c0, .inr (1, [.ref 2, .int 0, .ref 11, .ref 12, .ref 13, .ref 14, .int 0, .int (-1)]), .inr (4, [.ref 3, .ref 4, .ref 5, .ref 6, .ref 7, .ref 8, .ref 9, .ref 10]), (xI 1), (xI 24), (xI 24), (xI 24), (xI 24), (xI 24), (xI 24), (xJ 192), (xI 120), (xI 121), (xI 121), (xI 121)], 13, 828)) := by
  refine wLan 1 i17_0 rfl rfl ?_
  refine tObj i17_1 l17_3 (by decide) ?_
  refine wLan 5 i17_4 rfl rfl ?_
  refine eNew (n := 2) (N := 8) 13 828 12 820 i17_5 n17_9 rfl rfl rfl rfl ?_
  refine tHeap (h' := [c0, .inr (1, [.null, .int 0, .null, .null, .null, .null, .int 0, .int 0]), .inr (4, [.null, .null, .null, .null, .null, .null, .null, .null])]) rfl ?_
  refine wD 9 i17_8 rfl rfl rfl ?_
  refine wK 10 1 i17_9 (by decide) rfl ?_
  refine eCallV 13 [.ref 2, .int 1] [.ref 2, .ref 1] 12 820 4 483 i17_10 rfl (xlk4 l17_11) (Or.inr (Or.inr (Or.inl rfl))) m66 rfl rfl (by decide) (by decide) (by decide) rfl rfl (k_Texts_2 _ _) rfl rfl ?_
  refine wPut 16 i17_13 p17_14 rfl (by decide) rfl rfl rfl ?_
  refine tHeap (h' := [c0, .inr (1, [.ref 2, .int 0, .null, .null, .null, .null, .int 0, .int 0]), .inr (4, [.ref 3, .ref 4, .ref 5, .ref 6, .ref 7, .ref 8, .ref 9, .ref 10]), (xI 1), (xI 24), (xI 24), (xI 24), (xI 24), (xI 24), (xI 24), (xJ 192)]) rfl ?_
  refine wLan 17 i17_16 rfl rfl ?_
  refine wK 18 0 i17_17 (by decide) rfl ?_
  refine wPut 21 i17_18 p17_20 rfl (by decide) rfl rfl rfl ?_
  refine tHeap (h' := [c0, .inr (1, [.ref 2, .int 0, .null, .null, .null, .null, .int 0, .int 0]), .inr (4, [.ref 3, .ref 4, .ref 5, .ref 6, .ref 7, .ref 8, .ref 9, .ref 10]), (xI 1), (xI 24), (xI 24), (xI 24), (xI 24), (xI 24), (xI 24), (xJ 192)]) rfl ?_
  refine wLan 22 i17_21 rfl rfl ?_
  refine wKb 24 120 i17_22 (by decide) rfl ?_
  refine eNewA (n := 11) (N := 120) (c := (xI 120)) 4 483 3 363 i17_24 (by decide) (by decide) rfl rfl rfl rfl ?_
  refine tHeap (h' := [c0, .inr (1, [.ref 2, .int 0, .null, .null, .null, .null, .int 0, .int 0]), .inr (4, [.ref 3, .ref 4, .ref 5, .ref 6, .ref 7, .ref 8, .ref 9, .ref 10]), (xI 1), (xI 24), (xI 24), (xI 24), (xI 24), (xI 24), (xI 24), (xJ 192), (xI 120)]) rfl ?_
  refine wPut 29 i17_26 p17_24 rfl (by decide) rfl rfl rfl ?_
  refine tHeap (h' := [c0, .inr (1, [.ref 2, .int 0, .ref 11, .null, .null, .null, .int 0, .int 0]), .inr (4, [.ref 3, .ref 4, .ref 5, .ref 6, .ref 7, .ref 8, .ref 9, .ref 10]), (xI 1), (xI 24), (xI 24), (xI 24), (xI 24), (xI 24), (xI 24), (xJ 192), (xI 120)]) rfl ?_
  refine wLan 30 i17_29 rfl rfl ?_
  refine wKb 32 121 i17_30 (by decide) rfl ?_
  refine eNewA (n := 12) (N := 121) (c := (xI 121)) 3 363 2 242 i17_32 (by decide) (by decide) rfl rfl rfl rfl ?_
  refine tHeap (h' := [c0, .inr (1, [.ref 2, .int 0, .ref 11, .null, .null, .null, .int 0, .int 0]), .inr (4, [.ref 3, .ref 4, .ref 5, .ref 6, .ref 7, .ref 8, .ref 9, .ref 10]), (xI 1), (xI 24), (xI 24), (xI 24), (xI 24), (xI 24), (xI 24), (xJ 192), (xI 120), (xI 121)]) rfl ?_
  refine wPut 37 i17_34 p17_28 rfl (by decide) rfl rfl rfl ?_
  refine tHeap (h' := [c0, .inr (1, [.ref 2, .int 0, .ref 11, .ref 12, .null, .null, .int 0, .int 0]), .inr (4, [.ref 3, .ref 4, .ref 5, .ref 6, .ref 7, .ref 8, .ref 9, .ref 10]), (xI 1), (xI 24), (xI 24), (xI 24), (xI 24), (xI 24), (xI 24), (xJ 192), (xI 120), (xI 121)]) rfl ?_
  refine wLan 38 i17_37 rfl rfl ?_
  refine wKb 40 121 i17_38 (by decide) rfl ?_
  refine eNewA (n := 13) (N := 121) (c := (xI 121)) 2 242 1 121 i17_40 (by decide) (by decide) rfl rfl rfl rfl ?_
  refine tHeap (h' := [c0, .inr (1, [.ref 2, .int 0, .ref 11, .ref 12, .null, .null, .int 0, .int 0]), .inr (4, [.ref 3, .ref 4, .ref 5, .ref 6, .ref 7, .ref 8, .ref 9, .ref 10]), (xI 1), (xI 24), (xI 24), (xI 24), (xI 24), (xI 24), (xI 24), (xJ 192), (xI 120), (xI 121), (xI 121)]) rfl ?_
  refine wPut 45 i17_42 p17_31 rfl (by decide) rfl rfl rfl ?_
  refine tHeap (h' := [c0, .inr (1, [.ref 2, .int 0, .ref 11, .ref 12, .ref 13, .null, .int 0, .int 0]), .inr (4, [.ref 3, .ref 4, .ref 5, .ref 6, .ref 7, .ref 8, .ref 9, .ref 10]), (xI 1), (xI 24), (xI 24), (xI 24), (xI 24), (xI 24), (xI 24), (xJ 192), (xI 120), (xI 121), (xI 121)]) rfl ?_
  refine wLan 46 i17_45 rfl rfl ?_
  refine wKb 48 121 i17_46 (by decide) rfl ?_
  refine eNewA (n := 14) (N := 121) (c := (xI 121)) 1 121 0 0 i17_48 (by decide) (by decide) rfl rfl rfl rfl ?_
  refine tHeap (h' := [c0, .inr (1, [.ref 2, .int 0, .ref 11, .ref 12, .ref 13, .null, .int 0, .int 0]), .inr (4, [.ref 3, .ref 4, .ref 5, .ref 6, .ref 7, .ref 8, .ref 9, .ref 10]), (xI 1), (xI 24), (xI 24), (xI 24), (xI 24), (xI 24), (xI 24), (xJ 192), (xI 120), (xI 121), (xI 121), (xI 121)]) rfl ?_
  refine wPut 53 i17_50 p17_34 rfl (by decide) rfl rfl rfl ?_
  refine tHeap (h' := [c0, .inr (1, [.ref 2, .int 0, .ref 11, .ref 12, .ref 13, .ref 14, .int 0, .int 0]), .inr (4, [.ref 3, .ref 4, .ref 5, .ref 6, .ref 7, .ref 8, .ref 9, .ref 10]), (xI 1), (xI 24), (xI 24), (xI 24), (xI 24), (xI 24), (xI 24), (xJ 192), (xI 120), (xI 121), (xI 121), (xI 121)]) rfl ?_
  refine wLan 54 i17_53 rfl rfl ?_
  refine wK 55 0 i17_54 (by decide) rfl ?_
  refine wPut 58 i17_55 p17_37 rfl (by decide) rfl rfl rfl ?_
  refine tHeap (h' := [c0, .inr (1, [.ref 2, .int 0, .ref 11, .ref 12, .ref 13, .ref 14, .int 0, .int 0]), .inr (4, [.ref 3, .ref 4, .ref 5, .ref 6, .ref 7, .ref 8, .ref 9, .ref 10]), (xI 1), (xI 24), (xI 24), (xI 24), (xI 24), (xI 24), (xI 24), (xJ 192), (xI 120), (xI 121), (xI 121), (xI 121)]) rfl ?_
  refine wLan 59 i17_58 rfl rfl ?_
  refine wK 60 (-1) i17_59 (by decide) rfl ?_
  refine wPut 63 i17_60 p17_40 rfl (by decide) rfl rfl rfl ?_
  refine tHeap (h' := [c0, .inr (1, [.ref 2, .int 0, .ref 11, .ref 12, .ref 13, .ref 14, .int 0, .int (-1)]), .inr (4, [.ref 3, .ref 4, .ref 5, .ref 6, .ref 7, .ref 8, .ref 9, .ref 10]), (xI 1), (xI 24), (xI 24), (xI 24), (xI 24), (xI 24), (xI 24), (xJ 192), (xI 120), (xI 121), (xI 121), (xI 121)]) rfl ?_
  refine wR0 i17_63 m17 ?_
  exact rfl
set_option maxHeartbeats 4000000 in
set_option maxRecDepth 100000 in
theorem k_Printer {sc : xS} {d : Nat} (c0 c1 c2 c3 c4 c5 c6 c7 c8 c9 c10 c11 c12 c13 c14 : xE) : xT xg sc (d + 1) 6 0 [(0, .ref 15)] [] [c0, c1, c2, c3, c4, c5, c6, c7, c8, c9, c10, c11, c12, c13, c14, .inr (0, [.null, .int 0])] (fun r => r = (none, [c0, c1, c2, c3, c4, c5, c6, c7, c8, c9, c10, c11, c12, c13, c14, .inr (0, [.ref 16, .int 0]), (xI 1024)], 1, 1024)) := by
  refine wLan 1 i6_0 rfl rfl ?_
  refine tObj i6_1 l6_3 (by decide) ?_
  refine wLan 5 i6_4 rfl rfl ?_
  refine wKs 8 1024 i6_5 (by decide) rfl ?_
  refine eNewA (n := 16) (N := 1024) (c := (xI 1024)) 1 1024 0 0 i6_8 (by decide) (by decide) rfl rfl rfl rfl ?_
  refine tHeap (h' := [c0, c1, c2, c3, c4, c5, c6, c7, c8, c9, c10, c11, c12, c13, c14, .inr (0, [.null, .int 0]), (xI 1024)]) rfl ?_
  refine wPut 13 i6_10 p6_11 rfl (by decide) rfl rfl rfl ?_
  refine tHeap (h' := [c0, c1, c2, c3, c4, c5, c6, c7, c8, c9, c10, c11, c12, c13, c14, .inr (0, [.ref 16, .int 0]), (xI 1024)]) rfl ?_
  refine wLan 14 i6_13 rfl rfl ?_
  refine wK 15 0 i6_14 (by decide) rfl ?_
  refine wPut 18 i6_15 p6_15 rfl (by decide) rfl rfl rfl ?_
  refine tHeap (h' := [c0, c1, c2, c3, c4, c5, c6, c7, c8, c9, c10, c11, c12, c13, c14, .inr (0, [.ref 16, .int 0]), (xI 1024)]) rfl ?_
  refine wR0 i6_18 m6 ?_
  exact rfl
set_option maxHeartbeats 4000000 in
set_option maxRecDepth 100000 in
theorem k_Texts_a {sc : xS} {d : Nat} (c0 c1 c2 c3 c4 c5 c6 c7 c8 c9 c10 c11 c12 c13 c14 c15 c16 : xE) : xT xg sc (d + 1) 66 0 [(0, .ref 17), (1, .int 8)] [] [c0, c1, c2, c3, c4, c5, c6, c7, c8, c9, c10, c11, c12, c13, c14, c15, c16, .inr (4, [.null, .null, .null, .null, .null, .null, .null, .null])] (fun r => r = (none, [c0, c1, c2, c3, c4, c5, c6, c7, c8, c9, c10, c11, c12, c13, c14, c15, c16, .inr (4, [.ref 18, .ref 19, .ref 20, .ref 21, .ref 22, .ref 23, .ref 24, .ref 25]), (xI 8), (xI 192), (xI 192), (xI 192), (xI 192), (xI 192), (xI 192), (xJ 1536)], 8, 2696)) := by
  refine wLan 1 i66_0 rfl rfl ?_
  refine tObj i66_1 l66_3 (by decide) ?_
  refine wLin 5 i66_4 rfl rfl ?_
  refine wKb 7 24 i66_5 (by decide) rfl ?_
  refine wA 8 i66_7 rfl rfl rfl ?_
  refine tTop (v := 192) (by decide) ?_
  refine wSin 9 [(2, .int 192), (0, .ref 17), (1, .int 8)] i66_8 m66 (by decide) rfl rfl ?_
  refine wLan 10 i66_9 rfl rfl ?_
  refine wLin 11 i66_10 rfl rfl ?_
  refine eNewA (n := 18) (N := 8) (c := (xI 8)) 8 2696 7 2688 i66_11 (by decide) (by decide) rfl rfl rfl rfl ?_
  refine tHeap (h' := [c0, c1, c2, c3, c4, c5, c6, c7, c8, c9, c10, c11, c12, c13, c14, c15, c16, .inr (4, [.null, .null, .null, .null, .null, .null, .null, .null]), (xI 8)]) rfl ?_
  refine wPut 16 i66_13 p66_9 rfl (by decide) rfl rfl rfl ?_
  refine tHeap (h' := [c0, c1, c2, c3, c4, c5, c6, c7, c8, c9, c10, c11, c12, c13, c14, c15, c16, .inr (4, [.ref 18, .null, .null, .null, .null, .null, .null, .null]), (xI 8)]) rfl ?_
  refine wLan 17 i66_16 rfl rfl ?_
  refine wLin 18 i66_17 rfl rfl ?_
  refine eNewA (n := 19) (N := 192) (c := (xI 192)) 7 2688 6 2496 i66_18 (by decide) (by decide) rfl rfl rfl rfl ?_
  refine tHeap (h' := [c0, c1, c2, c3, c4, c5, c6, c7, c8, c9, c10, c11, c12, c13, c14, c15, c16, .inr (4, [.ref 18, .null, .null, .null, .null, .null, .null, .null]), (xI 8), (xI 192)]) rfl ?_
  refine wPut 23 i66_20 p66_15 rfl (by decide) rfl rfl rfl ?_
  refine tHeap (h' := [c0, c1, c2, c3, c4, c5, c6, c7, c8, c9, c10, c11, c12, c13, c14, c15, c16, .inr (4, [.ref 18, .ref 19, .null, .null, .null, .null, .null, .null]), (xI 8), (xI 192)]) rfl ?_
  refine wLan 24 i66_23 rfl rfl ?_
  refine wLin 25 i66_24 rfl rfl ?_
  refine eNewA (n := 20) (N := 192) (c := (xI 192)) 6 2496 5 2304 i66_25 (by decide) (by decide) rfl rfl rfl rfl ?_
  refine tHeap (h' := [c0, c1, c2, c3, c4, c5, c6, c7, c8, c9, c10, c11, c12, c13, c14, c15, c16, .inr (4, [.ref 18, .ref 19, .null, .null, .null, .null, .null, .null]), (xI 8), (xI 192), (xI 192)]) rfl ?_
  refine wPut 30 i66_27 p66_18 rfl (by decide) rfl rfl rfl ?_
  refine tHeap (h' := [c0, c1, c2, c3, c4, c5, c6, c7, c8, c9, c10, c11, c12, c13, c14, c15, c16, .inr (4, [.ref 18, .ref 19, .ref 20, .null, .null, .null, .null, .null]), (xI 8), (xI 192), (xI 192)]) rfl ?_
  refine wLan 31 i66_30 rfl rfl ?_
  refine wLin 32 i66_31 rfl rfl ?_
  refine eNewA (n := 21) (N := 192) (c := (xI 192)) 5 2304 4 2112 i66_32 (by decide) (by decide) rfl rfl rfl rfl ?_
  refine tHeap (h' := [c0, c1, c2, c3, c4, c5, c6, c7, c8, c9, c10, c11, c12, c13, c14, c15, c16, .inr (4, [.ref 18, .ref 19, .ref 20, .null, .null, .null, .null, .null]), (xI 8), (xI 192), (xI 192), (xI 192)]) rfl ?_
  refine wPut 37 i66_34 p66_21 rfl (by decide) rfl rfl rfl ?_
  refine tHeap (h' := [c0, c1, c2, c3, c4, c5, c6, c7, c8, c9, c10, c11, c12, c13, c14, c15, c16, .inr (4, [.ref 18, .ref 19, .ref 20, .ref 21, .null, .null, .null, .null]), (xI 8), (xI 192), (xI 192), (xI 192)]) rfl ?_
  refine wLan 38 i66_37 rfl rfl ?_
  refine wLin 39 i66_38 rfl rfl ?_
  refine eNewA (n := 22) (N := 192) (c := (xI 192)) 4 2112 3 1920 i66_39 (by decide) (by decide) rfl rfl rfl rfl ?_
  refine tHeap (h' := [c0, c1, c2, c3, c4, c5, c6, c7, c8, c9, c10, c11, c12, c13, c14, c15, c16, .inr (4, [.ref 18, .ref 19, .ref 20, .ref 21, .null, .null, .null, .null]), (xI 8), (xI 192), (xI 192), (xI 192), (xI 192)]) rfl ?_
  refine wPut 44 i66_41 p66_24 rfl (by decide) rfl rfl rfl ?_
  refine tHeap (h' := [c0, c1, c2, c3, c4, c5, c6, c7, c8, c9, c10, c11, c12, c13, c14, c15, c16, .inr (4, [.ref 18, .ref 19, .ref 20, .ref 21, .ref 22, .null, .null, .null]), (xI 8), (xI 192), (xI 192), (xI 192), (xI 192)]) rfl ?_
  refine wLan 45 i66_44 rfl rfl ?_
  refine wLin 46 i66_45 rfl rfl ?_
  refine eNewA (n := 23) (N := 192) (c := (xI 192)) 3 1920 2 1728 i66_46 (by decide) (by decide) rfl rfl rfl rfl ?_
  refine tHeap (h' := [c0, c1, c2, c3, c4, c5, c6, c7, c8, c9, c10, c11, c12, c13, c14, c15, c16, .inr (4, [.ref 18, .ref 19, .ref 20, .ref 21, .ref 22, .null, .null, .null]), (xI 8), (xI 192), (xI 192), (xI 192), (xI 192), (xI 192)]) rfl ?_
  refine wPut 51 i66_48 p66_27 rfl (by decide) rfl rfl rfl ?_
  refine tHeap (h' := [c0, c1, c2, c3, c4, c5, c6, c7, c8, c9, c10, c11, c12, c13, c14, c15, c16, .inr (4, [.ref 18, .ref 19, .ref 20, .ref 21, .ref 22, .ref 23, .null, .null]), (xI 8), (xI 192), (xI 192), (xI 192), (xI 192), (xI 192)]) rfl ?_
  refine wLan 52 i66_51 rfl rfl ?_
  refine wLin 53 i66_52 rfl rfl ?_
  refine eNewA (n := 24) (N := 192) (c := (xI 192)) 2 1728 1 1536 i66_53 (by decide) (by decide) rfl rfl rfl rfl ?_
  refine tHeap (h' := [c0, c1, c2, c3, c4, c5, c6, c7, c8, c9, c10, c11, c12, c13, c14, c15, c16, .inr (4, [.ref 18, .ref 19, .ref 20, .ref 21, .ref 22, .ref 23, .null, .null]), (xI 8), (xI 192), (xI 192), (xI 192), (xI 192), (xI 192), (xI 192)]) rfl ?_
  refine wPut 58 i66_55 p66_30 rfl (by decide) rfl rfl rfl ?_
  refine tHeap (h' := [c0, c1, c2, c3, c4, c5, c6, c7, c8, c9, c10, c11, c12, c13, c14, c15, c16, .inr (4, [.ref 18, .ref 19, .ref 20, .ref 21, .ref 22, .ref 23, .ref 24, .null]), (xI 8), (xI 192), (xI 192), (xI 192), (xI 192), (xI 192), (xI 192)]) rfl ?_
  refine wLan 59 i66_58 rfl rfl ?_
  refine wLin 60 i66_59 rfl rfl ?_
  refine wKb 62 8 i66_60 (by decide) rfl ?_
  refine wA 63 i66_62 rfl rfl rfl ?_
  refine tTop (v := 1536) (by decide) ?_
  refine eNewA (n := 25) (N := 1536) (c := (xJ 1536)) 1 1536 0 0 i66_63 (by decide) (by decide) rfl rfl rfl rfl ?_
  refine tHeap (h' := [c0, c1, c2, c3, c4, c5, c6, c7, c8, c9, c10, c11, c12, c13, c14, c15, c16, .inr (4, [.ref 18, .ref 19, .ref 20, .ref 21, .ref 22, .ref 23, .ref 24, .null]), (xI 8), (xI 192), (xI 192), (xI 192), (xI 192), (xI 192), (xI 192), (xJ 1536)]) rfl ?_
  refine wPut 68 i66_65 p66_33 rfl (by decide) rfl rfl rfl ?_
  refine tHeap (h' := [c0, c1, c2, c3, c4, c5, c6, c7, c8, c9, c10, c11, c12, c13, c14, c15, c16, .inr (4, [.ref 18, .ref 19, .ref 20, .ref 21, .ref 22, .ref 23, .ref 24, .ref 25]), (xI 8), (xI 192), (xI 192), (xI 192), (xI 192), (xI 192), (xI 192), (xJ 1536)]) rfl ?_
  refine wR0 i66_68 m66 ?_
  exact rfl
set_option maxHeartbeats 4000000 in
set_option maxRecDepth 100000 in
theorem k_Told_a {sc : xS} {d : Nat} (c0 c1 c2 c3 c4 c5 c6 c7 c8 c9 c10 c11 c12 c13 c14 c15 c16 c17 c18 c19 c20 c21 c22 c23 c24 c25 : xE) : xT xg sc (d + 1) 73 0 [(0, .ref 26), (1, .int 192)] [] [c0, c1, c2, c3, c4, c5, c6, c7, c8, c9, c10, c11, c12, c13, c14, c15, c16, c17, c18, c19, c20, c21, c22, c23, c24, c25, .inr (5, [.null, .null, .null, .null, .null, .null, .null, .null, .null, .null, .null, .int 0])] (fun r => r = (none, [c0, c1, c2, c3, c4, c5, c6, c7, c8, c9, c10, c11, c12, c13, c14, c15, c16, c17, c18, c19, c20, c21, c22, c23, c24, c25, .inr (5, [.ref 27, .ref 28, .ref 29, .ref 30, .ref 31, .ref 32, .ref 33, .ref 34, .ref 35, .ref 36, .ref 37, .int 0]), (xI 192), (xI 192), .inl (.int, 192, .inl xOne), (xZ 192), (xI 192), (xI 192), (xB 12288), (xJ 12288), (xB 12288), (xZ 192), (xI 192)], 11, 38400)) := by
  refine wLan 1 i73_0 rfl rfl ?_
  refine tObj i73_1 l73_3 (by decide) ?_
  refine wLan 5 i73_4 rfl rfl ?_
  refine wK 6 0 i73_5 (by decide) rfl ?_
  refine wPut 9 i73_6 p73_9 rfl (by decide) rfl rfl rfl ?_
  refine tHeap (h' := [c0, c1, c2, c3, c4, c5, c6, c7, c8, c9, c10, c11, c12, c13, c14, c15, c16, c17, c18, c19, c20, c21, c22, c23, c24, c25, .inr (5, [.null, .null, .null, .null, .null, .null, .null, .null, .null, .null, .null, .int 0])]) rfl ?_
  refine wLan 10 i73_9 rfl rfl ?_
  refine wLin 11 i73_10 rfl rfl ?_
  refine eNewA (n := 27) (N := 192) (c := (xI 192)) 11 38400 10 38208 i73_11 (by decide) (by decide) rfl rfl rfl rfl ?_
  refine tHeap (h' := [c0, c1, c2, c3, c4, c5, c6, c7, c8, c9, c10, c11, c12, c13, c14, c15, c16, c17, c18, c19, c20, c21, c22, c23, c24, c25, .inr (5, [.null, .null, .null, .null, .null, .null, .null, .null, .null, .null, .null, .int 0]), (xI 192)]) rfl ?_
  refine wPut 16 i73_13 p73_15 rfl (by decide) rfl rfl rfl ?_
  refine tHeap (h' := [c0, c1, c2, c3, c4, c5, c6, c7, c8, c9, c10, c11, c12, c13, c14, c15, c16, c17, c18, c19, c20, c21, c22, c23, c24, c25, .inr (5, [.ref 27, .null, .null, .null, .null, .null, .null, .null, .null, .null, .null, .int 0]), (xI 192)]) rfl ?_
  refine wLan 17 i73_16 rfl rfl ?_
  refine wLin 18 i73_17 rfl rfl ?_
  refine eNewA (n := 28) (N := 192) (c := (xI 192)) 10 38208 9 38016 i73_18 (by decide) (by decide) rfl rfl rfl rfl ?_
  refine tHeap (h' := [c0, c1, c2, c3, c4, c5, c6, c7, c8, c9, c10, c11, c12, c13, c14, c15, c16, c17, c18, c19, c20, c21, c22, c23, c24, c25, .inr (5, [.ref 27, .null, .null, .null, .null, .null, .null, .null, .null, .null, .null, .int 0]), (xI 192), (xI 192)]) rfl ?_
  refine wPut 23 i73_20 p73_19 rfl (by decide) rfl rfl rfl ?_
  refine tHeap (h' := [c0, c1, c2, c3, c4, c5, c6, c7, c8, c9, c10, c11, c12, c13, c14, c15, c16, c17, c18, c19, c20, c21, c22, c23, c24, c25, .inr (5, [.ref 27, .ref 28, .null, .null, .null, .null, .null, .null, .null, .null, .null, .int 0]), (xI 192), (xI 192)]) rfl ?_
  refine wLan 24 i73_23 rfl rfl ?_
  refine wLin 25 i73_24 rfl rfl ?_
  refine eNewA (n := 29) (N := 192) (c := (xI 192)) 9 38016 8 37824 i73_25 (by decide) (by decide) rfl rfl rfl rfl ?_
  refine tHeap (h' := [c0, c1, c2, c3, c4, c5, c6, c7, c8, c9, c10, c11, c12, c13, c14, c15, c16, c17, c18, c19, c20, c21, c22, c23, c24, c25, .inr (5, [.ref 27, .ref 28, .null, .null, .null, .null, .null, .null, .null, .null, .null, .int 0]), (xI 192), (xI 192), (xI 192)]) rfl ?_
  refine wPut 30 i73_27 p73_22 rfl (by decide) rfl rfl rfl ?_
  refine tHeap (h' := [c0, c1, c2, c3, c4, c5, c6, c7, c8, c9, c10, c11, c12, c13, c14, c15, c16, c17, c18, c19, c20, c21, c22, c23, c24, c25, .inr (5, [.ref 27, .ref 28, .ref 29, .null, .null, .null, .null, .null, .null, .null, .null, .int 0]), (xI 192), (xI 192), (xI 192)]) rfl ?_
  refine wLan 31 i73_30 rfl rfl ?_
  refine wLin 32 i73_31 rfl rfl ?_
  refine eNewA (n := 30) (N := 192) (c := (xZ 192)) 8 37824 7 37632 i73_32 (by decide) (by decide) rfl rfl rfl rfl ?_
  refine tHeap (h' := [c0, c1, c2, c3, c4, c5, c6, c7, c8, c9, c10, c11, c12, c13, c14, c15, c16, c17, c18, c19, c20, c21, c22, c23, c24, c25, .inr (5, [.ref 27, .ref 28, .ref 29, .null, .null, .null, .null, .null, .null, .null, .null, .int 0]), (xI 192), (xI 192), (xI 192), (xZ 192)]) rfl ?_
  refine wPut 37 i73_34 p73_25 rfl (by decide) rfl rfl rfl ?_
  refine tHeap (h' := [c0, c1, c2, c3, c4, c5, c6, c7, c8, c9, c10, c11, c12, c13, c14, c15, c16, c17, c18, c19, c20, c21, c22, c23, c24, c25, .inr (5, [.ref 27, .ref 28, .ref 29, .ref 30, .null, .null, .null, .null, .null, .null, .null, .int 0]), (xI 192), (xI 192), (xI 192), (xZ 192)]) rfl ?_
  refine wLan 38 i73_37 rfl rfl ?_
  refine wLin 39 i73_38 rfl rfl ?_
  refine eNewA (n := 31) (N := 192) (c := (xI 192)) 7 37632 6 37440 i73_39 (by decide) (by decide) rfl rfl rfl rfl ?_
  refine tHeap (h' := [c0, c1, c2, c3, c4, c5, c6, c7, c8, c9, c10, c11, c12, c13, c14, c15, c16, c17, c18, c19, c20, c21, c22, c23, c24, c25, .inr (5, [.ref 27, .ref 28, .ref 29, .ref 30, .null, .null, .null, .null, .null, .null, .null, .int 0]), (xI 192), (xI 192), (xI 192), (xZ 192), (xI 192)]) rfl ?_
  refine wPut 44 i73_41 p73_29 rfl (by decide) rfl rfl rfl ?_
  refine tHeap (h' := [c0, c1, c2, c3, c4, c5, c6, c7, c8, c9, c10, c11, c12, c13, c14, c15, c16, c17, c18, c19, c20, c21, c22, c23, c24, c25, .inr (5, [.ref 27, .ref 28, .ref 29, .ref 30, .ref 31, .null, .null, .null, .null, .null, .null, .int 0]), (xI 192), (xI 192), (xI 192), (xZ 192), (xI 192)]) rfl ?_
  refine wLan 45 i73_44 rfl rfl ?_
  refine wLin 46 i73_45 rfl rfl ?_
  refine eNewA (n := 32) (N := 192) (c := (xI 192)) 6 37440 5 37248 i73_46 (by decide) (by decide) rfl rfl rfl rfl ?_
  refine tHeap (h' := [c0, c1, c2, c3, c4, c5, c6, c7, c8, c9, c10, c11, c12, c13, c14, c15, c16, c17, c18, c19, c20, c21, c22, c23, c24, c25, .inr (5, [.ref 27, .ref 28, .ref 29, .ref 30, .ref 31, .null, .null, .null, .null, .null, .null, .int 0]), (xI 192), (xI 192), (xI 192), (xZ 192), (xI 192), (xI 192)]) rfl ?_
  refine wPut 51 i73_48 p73_32 rfl (by decide) rfl rfl rfl ?_
  refine tHeap (h' := [c0, c1, c2, c3, c4, c5, c6, c7, c8, c9, c10, c11, c12, c13, c14, c15, c16, c17, c18, c19, c20, c21, c22, c23, c24, c25, .inr (5, [.ref 27, .ref 28, .ref 29, .ref 30, .ref 31, .ref 32, .null, .null, .null, .null, .null, .int 0]), (xI 192), (xI 192), (xI 192), (xZ 192), (xI 192), (xI 192)]) rfl ?_
  refine wLan 52 i73_51 rfl rfl ?_
  refine wLin 53 i73_52 rfl rfl ?_
  refine wKb 55 64 i73_53 (by decide) rfl ?_
  refine wA 56 i73_55 rfl rfl rfl ?_
  refine tTop (v := 12288) (by decide) ?_
  refine eNewA (n := 33) (N := 12288) (c := (xB 12288)) 5 37248 4 24960 i73_56 (by decide) (by decide) rfl rfl rfl rfl ?_
  refine tHeap (h' := [c0, c1, c2, c3, c4, c5, c6, c7, c8, c9, c10, c11, c12, c13, c14, c15, c16, c17, c18, c19, c20, c21, c22, c23, c24, c25, .inr (5, [.ref 27, .ref 28, .ref 29, .ref 30, .ref 31, .ref 32, .null, .null, .null, .null, .null, .int 0]), (xI 192), (xI 192), (xI 192), (xZ 192), (xI 192), (xI 192), (xB 12288)]) rfl ?_
  refine wPut 61 i73_58 p73_35 rfl (by decide) rfl rfl rfl ?_
  refine tHeap (h' := [c0, c1, c2, c3, c4, c5, c6, c7, c8, c9, c10, c11, c12, c13, c14, c15, c16, c17, c18, c19, c20, c21, c22, c23, c24, c25, .inr (5, [.ref 27, .ref 28, .ref 29, .ref 30, .ref 31, .ref 32, .ref 33, .null, .null, .null, .null, .int 0]), (xI 192), (xI 192), (xI 192), (xZ 192), (xI 192), (xI 192), (xB 12288)]) rfl ?_
  refine wLan 62 i73_61 rfl rfl ?_
  refine wLin 63 i73_62 rfl rfl ?_
  refine wKb 65 64 i73_63 (by decide) rfl ?_
  refine wA 66 i73_65 rfl rfl rfl ?_
  refine tTop (v := 12288) (by decide) ?_
  refine eNewA (n := 34) (N := 12288) (c := (xJ 12288)) 4 24960 3 12672 i73_66 (by decide) (by decide) rfl rfl rfl rfl ?_
  refine tHeap (h' := [c0, c1, c2, c3, c4, c5, c6, c7, c8, c9, c10, c11, c12, c13, c14, c15, c16, c17, c18, c19, c20, c21, c22, c23, c24, c25, .inr (5, [.ref 27, .ref 28, .ref 29, .ref 30, .ref 31, .ref 32, .ref 33, .null, .null, .null, .null, .int 0]), (xI 192), (xI 192), (xI 192), (xZ 192), (xI 192), (xI 192), (xB 12288), (xJ 12288)]) rfl ?_
  refine wPut 71 i73_68 p73_39 rfl (by decide) rfl rfl rfl ?_
  refine tHeap (h' := [c0, c1, c2, c3, c4, c5, c6, c7, c8, c9, c10, c11, c12, c13, c14, c15, c16, c17, c18, c19, c20, c21, c22, c23, c24, c25, .inr (5, [.ref 27, .ref 28, .ref 29, .ref 30, .ref 31, .ref 32, .ref 33, .ref 34, .null, .null, .null, .int 0]), (xI 192), (xI 192), (xI 192), (xZ 192), (xI 192), (xI 192), (xB 12288), (xJ 12288)]) rfl ?_
  refine wLan 72 i73_71 rfl rfl ?_
  refine wLin 73 i73_72 rfl rfl ?_
  refine wKb 75 64 i73_73 (by decide) rfl ?_
  refine wA 76 i73_75 rfl rfl rfl ?_
  refine tTop (v := 12288) (by decide) ?_
  refine eNewA (n := 35) (N := 12288) (c := (xB 12288)) 3 12672 2 384 i73_76 (by decide) (by decide) rfl rfl rfl rfl ?_
  refine tHeap (h' := [c0, c1, c2, c3, c4, c5, c6, c7, c8, c9, c10, c11, c12, c13, c14, c15, c16, c17, c18, c19, c20, c21, c22, c23, c24, c25, .inr (5, [.ref 27, .ref 28, .ref 29, .ref 30, .ref 31, .ref 32, .ref 33, .ref 34, .null, .null, .null, .int 0]), (xI 192), (xI 192), (xI 192), (xZ 192), (xI 192), (xI 192), (xB 12288), (xJ 12288), (xB 12288)]) rfl ?_
  refine wPut 81 i73_78 p73_43 rfl (by decide) rfl rfl rfl ?_
  refine tHeap (h' := [c0, c1, c2, c3, c4, c5, c6, c7, c8, c9, c10, c11, c12, c13, c14, c15, c16, c17, c18, c19, c20, c21, c22, c23, c24, c25, .inr (5, [.ref 27, .ref 28, .ref 29, .ref 30, .ref 31, .ref 32, .ref 33, .ref 34, .ref 35, .null, .null, .int 0]), (xI 192), (xI 192), (xI 192), (xZ 192), (xI 192), (xI 192), (xB 12288), (xJ 12288), (xB 12288)]) rfl ?_
  refine wLan 82 i73_81 rfl rfl ?_
  refine wLin 83 i73_82 rfl rfl ?_
  refine eNewA (n := 36) (N := 192) (c := (xZ 192)) 2 384 1 192 i73_83 (by decide) (by decide) rfl rfl rfl rfl ?_
  refine tHeap (h' := [c0, c1, c2, c3, c4, c5, c6, c7, c8, c9, c10, c11, c12, c13, c14, c15, c16, c17, c18, c19, c20, c21, c22, c23, c24, c25, .inr (5, [.ref 27, .ref 28, .ref 29, .ref 30, .ref 31, .ref 32, .ref 33, .ref 34, .ref 35, .null, .null, .int 0]), (xI 192), (xI 192), (xI 192), (xZ 192), (xI 192), (xI 192), (xB 12288), (xJ 12288), (xB 12288), (xZ 192)]) rfl ?_
  refine wPut 88 i73_85 p73_46 rfl (by decide) rfl rfl rfl ?_
  refine tHeap (h' := [c0, c1, c2, c3, c4, c5, c6, c7, c8, c9, c10, c11, c12, c13, c14, c15, c16, c17, c18, c19, c20, c21, c22, c23, c24, c25, .inr (5, [.ref 27, .ref 28, .ref 29, .ref 30, .ref 31, .ref 32, .ref 33, .ref 34, .ref 35, .ref 36, .null, .int 0]), (xI 192), (xI 192), (xI 192), (xZ 192), (xI 192), (xI 192), (xB 12288), (xJ 12288), (xB 12288), (xZ 192)]) rfl ?_
  refine wLan 89 i73_88 rfl rfl ?_
  refine wLin 90 i73_89 rfl rfl ?_
  refine eNewA (n := 37) (N := 192) (c := (xI 192)) 1 192 0 0 i73_90 (by decide) (by decide) rfl rfl rfl rfl ?_
  refine tHeap (h' := [c0, c1, c2, c3, c4, c5, c6, c7, c8, c9, c10, c11, c12, c13, c14, c15, c16, c17, c18, c19, c20, c21, c22, c23, c24, c25, .inr (5, [.ref 27, .ref 28, .ref 29, .ref 30, .ref 31, .ref 32, .ref 33, .ref 34, .ref 35, .ref 36, .null, .int 0]), (xI 192), (xI 192), (xI 192), (xZ 192), (xI 192), (xI 192), (xB 12288), (xJ 12288), (xB 12288), (xZ 192), (xI 192)]) rfl ?_
  refine wPut 95 i73_92 p73_49 rfl (by decide) rfl rfl rfl ?_
  refine tHeap (h' := [c0, c1, c2, c3, c4, c5, c6, c7, c8, c9, c10, c11, c12, c13, c14, c15, c16, c17, c18, c19, c20, c21, c22, c23, c24, c25, .inr (5, [.ref 27, .ref 28, .ref 29, .ref 30, .ref 31, .ref 32, .ref 33, .ref 34, .ref 35, .ref 36, .ref 37, .int 0]), (xI 192), (xI 192), (xI 192), (xZ 192), (xI 192), (xI 192), (xB 12288), (xJ 12288), (xB 12288), (xZ 192), (xI 192)]) rfl ?_
  refine wK 96 0 i73_95 (by decide) rfl ?_
  refine wSin 97 [(2, .int 0), (0, .ref 26), (1, .int 192)] i73_96 m73 (by decide) rfl rfl ?_
  refine told_fill 26 29 _ rfl (by decide) 192 0 0 _ (fun _ => 0) rfl rfl rfl rfl (fun j hj => absurd hj (Nat.not_lt_zero j)) (fun _ _ => rfl) ?_
  refine tHeap (h' := [c0, c1, c2, c3, c4, c5, c6, c7, c8, c9, c10, c11, c12, c13, c14, c15, c16, c17, c18, c19, c20, c21, c22, c23, c24, c25, .inr (5, [.ref 27, .ref 28, .ref 29, .ref 30, .ref 31, .ref 32, .ref 33, .ref 34, .ref 35, .ref 36, .ref 37, .int 0]), (xI 192), (xI 192), .inl (.int, 192, .inl xOne), (xZ 192), (xI 192), (xI 192), (xB 12288), (xJ 12288), (xB 12288), (xZ 192), (xI 192)]) rfl ?_
  refine wR0 i73_115 m73 ?_
  exact rfl
set_option maxHeartbeats 4000000 in
set_option maxRecDepth 100000 in
theorem k_Told_b {sc : xS} {d : Nat} (c0 c1 c2 c3 c4 c5 c6 c7 c8 c9 c10 c11 c12 c13 c14 c15 c16 c17 c18 c19 c20 c21 c22 c23 c24 c25 c26 c27 c28 c29 c30 c31 c32 c33 c34 c35 c36 c37 : xE) : xT xg sc (d + 1) 73 0 [(0, .ref 38), (1, .int 192)] [] [c0, c1, c2, c3, c4, c5, c6, c7, c8, c9, c10, c11, c12, c13, c14, c15, c16, c17, c18, c19, c20, c21, c22, c23, c24, c25, c26, c27, c28, c29, c30, c31, c32, c33, c34, c35, c36, c37, .inr (5, [.null, .null, .null, .null, .null, .null, .null, .null, .null, .null, .null, .int 0])] (fun r => r = (none, [c0, c1, c2, c3, c4, c5, c6, c7, c8, c9, c10, c11, c12, c13, c14, c15, c16, c17, c18, c19, c20, c21, c22, c23, c24, c25, c26, c27, c28, c29, c30, c31, c32, c33, c34, c35, c36, c37, .inr (5, [.ref 39, .ref 40, .ref 41, .ref 42, .ref 43, .ref 44, .ref 45, .ref 46, .ref 47, .ref 48, .ref 49, .int 0]), (xI 192), (xI 192), .inl (.int, 192, .inl xOne), (xZ 192), (xI 192), (xI 192), (xB 12288), (xJ 12288), (xB 12288), (xZ 192), (xI 192)], 11, 38400)) := by
  refine wLan 1 i73_0 rfl rfl ?_
  refine tObj i73_1 l73_3 (by decide) ?_
  refine wLan 5 i73_4 rfl rfl ?_
  refine wK 6 0 i73_5 (by decide) rfl ?_
  refine wPut 9 i73_6 p73_9 rfl (by decide) rfl rfl rfl ?_
  refine tHeap (h' := [c0, c1, c2, c3, c4, c5, c6, c7, c8, c9, c10, c11, c12, c13, c14, c15, c16, c17, c18, c19, c20, c21, c22, c23, c24, c25, c26, c27, c28, c29, c30, c31, c32, c33, c34, c35, c36, c37, .inr (5, [.null, .null, .null, .null, .null, .null, .null, .null, .null, .null, .null, .int 0])]) rfl ?_
  refine wLan 10 i73_9 rfl rfl ?_
  refine wLin 11 i73_10 rfl rfl ?_
  refine eNewA (n := 39) (N := 192) (c := (xI 192)) 11 38400 10 38208 i73_11 (by decide) (by decide) rfl rfl rfl rfl ?_
  refine tHeap (h' := [c0, c1, c2, c3, c4, c5, c6, c7, c8, c9, c10, c11, c12, c13, c14, c15, c16, c17, c18, c19, c20, c21, c22, c23, c24, c25, c26, c27, c28, c29, c30, c31, c32, c33, c34, c35, c36, c37, .inr (5, [.null, .null, .null, .null, .null, .null, .null, .null, .null, .null, .null, .int 0]), (xI 192)]) rfl ?_
  refine wPut 16 i73_13 p73_15 rfl (by decide) rfl rfl rfl ?_
  refine tHeap (h' := [c0, c1, c2, c3, c4, c5, c6, c7, c8, c9, c10, c11, c12, c13, c14, c15, c16, c17, c18, c19, c20, c21, c22, c23, c24, c25, c26, c27, c28, c29, c30, c31, c32, c33, c34, c35, c36, c37, .inr (5, [.ref 39, .null, .null, .null, .null, .null, .null, .null, .null, .null, .null, .int 0]), (xI 192)]) rfl ?_
  refine wLan 17 i73_16 rfl rfl ?_
  refine wLin 18 i73_17 rfl rfl ?_
  refine eNewA (n := 40) (N := 192) (c := (xI 192)) 10 38208 9 38016 i73_18 (by decide) (by decide) rfl rfl rfl rfl ?_
  refine tHeap (h' := [c0, c1, c2, c3, c4, c5, c6, c7, c8, c9, c10, c11, c12, c13, c14, c15, c16, c17, c18, c19, c20, c21, c22, c23, c24, c25, c26, c27, c28, c29, c30, c31, c32, c33, c34, c35, c36, c37, .inr (5, [.ref 39, .null, .null, .null, .null, .null, .null, .null, .null, .null, .null, .int 0]), (xI 192), (xI 192)]) rfl ?_
  refine wPut 23 i73_20 p73_19 rfl (by decide) rfl rfl rfl ?_
  refine tHeap (h' := [c0, c1, c2, c3, c4, c5, c6, c7, c8, c9, c10, c11, c12, c13, c14, c15, c16, c17, c18, c19, c20, c21, c22, c23, c24, c25, c26, c27, c28, c29, c30, c31, c32, c33, c34, c35, c36, c37, .inr (5, [.ref 39, .ref 40, .null, .null, .null, .null, .null, .null, .null, .null, .null, .int 0]), (xI 192), (xI 192)]) rfl ?_
  refine wLan 24 i73_23 rfl rfl ?_
  refine wLin 25 i73_24 rfl rfl ?_
  refine eNewA (n := 41) (N := 192) (c := (xI 192)) 9 38016 8 37824 i73_25 (by decide) (by decide) rfl rfl rfl rfl ?_
  refine tHeap (h' := [c0, c1, c2, c3, c4, c5, c6, c7, c8, c9, c10, c11, c12, c13, c14, c15, c16, c17, c18, c19, c20, c21, c22, c23, c24, c25, c26, c27, c28, c29, c30, c31, c32, c33, c34, c35, c36, c37, .inr (5, [.ref 39, .ref 40, .null, .null, .null, .null, .null, .null, .null, .null, .null, .int 0]), (xI 192), (xI 192), (xI 192)]) rfl ?_
  refine wPut 30 i73_27 p73_22 rfl (by decide) rfl rfl rfl ?_
  refine tHeap (h' := [c0, c1, c2, c3, c4, c5, c6, c7, c8, c9, c10, c11, c12, c13, c14, c15, c16, c17, c18, c19, c20, c21, c22, c23, c24, c25, c26, c27, c28, c29, c30, c31, c32, c33, c34, c35, c36, c37, .inr (5, [.ref 39, .ref 40, .ref 41, .null, .null, .null, .null, .null, .null, .null, .null, .int 0]), (xI 192), (xI 192), (xI 192)]) rfl ?_
  refine wLan 31 i73_30 rfl rfl ?_
  refine wLin 32 i73_31 rfl rfl ?_
  refine eNewA (n := 42) (N := 192) (c := (xZ 192)) 8 37824 7 37632 i73_32 (by decide) (by decide) rfl rfl rfl rfl ?_
  refine tHeap (h' := [c0, c1, c2, c3, c4, c5, c6, c7, c8, c9, c10, c11, c12, c13, c14, c15, c16, c17, c18, c19, c20, c21, c22, c23, c24, c25, c26, c27, c28, c29, c30, c31, c32, c33, c34, c35, c36, c37, .inr (5, [.ref 39, .ref 40, .ref 41, .null, .null, .null, .null, .null, .null, .null, .null, .int 0]), (xI 192), (xI 192), (xI 192), (xZ 192)]) rfl ?_
  refine wPut 37 i73_34 p73_25 rfl (by decide) rfl rfl rfl ?_
  refine tHeap (h' := [c0, c1, c2, c3, c4, c5, c6, c7, c8, c9, c10, c11, c12, c13, c14, c15, c16, c17, c18, c19, c20, c21, c22, c23, c24, c25, c26, c27, c28, c29, c30, c31, c32, c33, c34, c35, c36, c37, .inr (5, [.ref 39, .ref 40, .ref 41, .ref 42, .null, .null, .null, .null, .null, .null, .null, .int 0]), (xI 192), (xI 192), (xI 192), (xZ 192)]) rfl ?_
  refine wLan 38 i73_37 rfl rfl ?_
  refine wLin 39 i73_38 rfl rfl ?_
  refine eNewA (n := 43) (N := 192) (c := (xI 192)) 7 37632 6 37440 i73_39 (by decide) (by decide) rfl rfl rfl rfl ?_
  refine tHeap (h' := [c0, c1, c2, c3, c4, c5, c6, c7, c8, c9, c10, c11, c12, c13, c14, c15, c16, c17, c18, c19, c20, c21, c22, c23, c24, c25, c26, c27, c28, c29, c30, c31, c32, c33, c34, c35, c36, c37, .inr (5, [.ref 39, .ref 40, .ref 41, .ref 42, .null, .null, .null, .null, .null, .null, .null, .int 0]), (xI 192), (xI 192), (xI 192), (xZ 192), (xI 192)]) rfl ?_
  refine wPut 44 i73_41 p73_29 rfl (by decide) rfl rfl rfl ?_
  refine tHeap (h' := [c0, c1, c2, c3, c4, c5, c6, c7, c8, c9, c10, c11, c12, c13, c14, c15, c16, c17, c18, c19, c20, c21, c22, c23, c24, c25, c26, c27, c28, c29, c30, c31, c32, c33, c34, c35, c36, c37, .inr (5, [.ref 39, .ref 40, .ref 41, .ref 42, .ref 43, .null, .null, .null, .null, .null, .null, .int 0]), (xI 192), (xI 192), (xI 192), (xZ 192), (xI 192)]) rfl ?_
  refine wLan 45 i73_44 rfl rfl ?_
  refine wLin 46 i73_45 rfl rfl ?_
  refine eNewA (n := 44) (N := 192) (c := (xI 192)) 6 37440 5 37248 i73_46 (by decide) (by decide) rfl rfl rfl rfl ?_
  refine tHeap (h' := [c0, c1, c2, c3, c4, c5, c6, c7, c8, c9, c10, c11, c12, c13, c14, c15, c16, c17, c18, c19, c20, c21, c22, c23, c24, c25, c26, c27, c28, c29, c30, c31, c32, c33, c34, c35, c36, c37, .inr (5, [.ref 39, .ref 40, .ref 41, .ref 42, .ref 43, .null, .null, .null, .null, .null, .null, .int 0]), (xI 192), (xI 192), (xI 192), (xZ 192), (xI 192), (xI 192)]) rfl ?_
  refine wPut 51 i73_48 p73_32 rfl (by decide) rfl rfl rfl ?_
  refine tHeap (h' := [c0, c1, c2, c3, c4, c5, c6, c7, c8, c9, c10, c11, c12, c13, c14, c15, c16, c17, c18, c19, c20, c21, c22, c23, c24, c25, c26, c27, c28, c29, c30, c31, c32, c33, c34, c35, c36, c37, .inr (5, [.ref 39, .ref 40, .ref 41, .ref 42, .ref 43, .ref 44, .null, .null, .null, .null, .null, .int 0]), (xI 192), (xI 192), (xI 192), (xZ 192), (xI 192), (xI 192)]) rfl ?_
  refine wLan 52 i73_51 rfl rfl ?_
  refine wLin 53 i73_52 rfl rfl ?_
  refine wKb 55 64 i73_53 (by decide) rfl ?_
  refine wA 56 i73_55 rfl rfl rfl ?_
  refine tTop (v := 12288) (by decide) ?_
  refine eNewA (n := 45) (N := 12288) (c := (xB 12288)) 5 37248 4 24960 i73_56 (by decide) (by decide) rfl rfl rfl rfl ?_
  refine tHeap (h' := [c0, c1, c2, c3, c4, c5, c6, c7, c8, c9, c10, c11, c12, c13, c14, c15, c16, c17, c18, c19, c20, c21, c22, c23, c24, c25, c26, c27, c28, c29, c30, c31, c32, c33, c34, c35, c36, c37, .inr (5, [.ref 39, .ref 40, .ref 41, .ref 42, .ref 43, .ref 44, .null, .null, .null, .null, .null, .int 0]), (xI 192), (xI 192), (xI 192), (xZ 192), (xI 192), (xI 192), (xB 12288)]) rfl ?_
  refine wPut 61 i73_58 p73_35 rfl (by decide) rfl rfl rfl ?_
  refine tHeap (h' := [c0, c1, c2, c3, c4, c5, c6, c7, c8, c9, c10, c11, c12, c13, c14, c15, c16, c17, c18, c19, c20, c21, c22, c23, c24, c25, c26, c27, c28, c29, c30, c31, c32, c33, c34, c35, c36, c37, .inr (5, [.ref 39, .ref 40, .ref 41, .ref 42, .ref 43, .ref 44, .ref 45, .null, .null, .null, .null, .int 0]), (xI 192), (xI 192), (xI 192), (xZ 192), (xI 192), (xI 192), (xB 12288)]) rfl ?_
  refine wLan 62 i73_61 rfl rfl ?_
  refine wLin 63 i73_62 rfl rfl ?_
  refine wKb 65 64 i73_63 (by decide) rfl ?_
  refine wA 66 i73_65 rfl rfl rfl ?_
  refine tTop (v := 12288) (by decide) ?_
  refine eNewA (n := 46) (N := 12288) (c := (xJ 12288)) 4 24960 3 12672 i73_66 (by decide) (by decide) rfl rfl rfl rfl ?_
  refine tHeap (h' := [c0, c1, c2, c3, c4, c5, c6, c7, c8, c9, c10, c11, c12, c13, c14, c15, c16, c17, c18, c19, c20, c21, c22, c23, c24, c25, c26, c27, c28, c29, c30, c31, c32, c33, c34, c35, c36, c37, .inr (5, [.ref 39, .ref 40, .ref 41, .ref 42, .ref 43, .ref 44, .ref 45, .null, .null, .null, .null, .int 0]), (xI 192), (xI 192), (xI 192), (xZ 192), (xI 192), (xI 192), (xB 12288), (xJ 12288)]) rfl ?_
  refine wPut 71 i73_68 p73_39 rfl (by decide) rfl rfl rfl ?_
  refine tHeap (h' := [c0, c1, c2, c3, c4, c5, c6, c7, c8, c9, c10, c11, c12, c13, c14, c15, c16, c17, c18, c19, c20, c21, c22, c23, c24, c25, c26, c27, c28, c29, c30, c31, c32, c33, c34, c35, c36, c37, .inr (5, [.ref 39, .ref 40, .ref 41, .ref 42, .ref 43, .ref 44, .ref 45, .ref 46, .null, .null, .null, .int 0]), (xI 192), (xI 192), (xI 192), (xZ 192), (xI 192), (xI 192), (xB 12288), (xJ 12288)]) rfl ?_
  refine wLan 72 i73_71 rfl rfl ?_
  refine wLin 73 i73_72 rfl rfl ?_
  refine wKb 75 64 i73_73 (by decide) rfl ?_
  refine wA 76 i73_75 rfl rfl rfl ?_
  refine tTop (v := 12288) (by decide) ?_
  refine eNewA (n := 47) (N := 12288) (c := (xB 12288)) 3 12672 2 384 i73_76 (by decide) (by decide) rfl rfl rfl rfl ?_
  refine tHeap (h' := [c0, c1, c2, c3, c4, c5, c6, c7, c8, c9, c10, c11, c12, c13, c14, c15, c16, c17, c18, c19, c20, c21, c22, c23, c24, c25, c26, c27, c28, c29, c30, c31, c32, c33, c34, c35, c36, c37, .inr (5, [.ref 39, .ref 40, .ref 41, .ref 42, .ref 43, .ref 44, .ref 45, .ref 46, .null, .null, .null, .int 0]), (xI 192), (xI 192), (xI 192), (xZ 192), (xI 192), (xI 192), (xB 12288), (xJ 12288), (xB 12288)]) rfl ?_
  refine wPut 81 i73_78 p73_43 rfl (by decide) rfl rfl rfl ?_
  refine tHeap (h' := [c0, c1, c2, c3, c4, c5, c6, c7, c8, c9, c10, c11, c12, c13, c14, c15, c16, c17, c18, c19, c20, c21, c22, c23, c24, c25, c26, c27, c28, c29, c30, c31, c32, c33, c34, c35, c36, c37, .inr (5, [.ref 39, .ref 40, .ref 41, .ref 42, .ref 43, .ref 44, .ref 45, .ref 46, .ref 47, .null, .null, .int 0]), (xI 192), (xI 192), (xI 192), (xZ 192), (xI 192), (xI 192), (xB 12288), (xJ 12288), (xB 12288)]) rfl ?_
  refine wLan 82 i73_81 rfl rfl ?_
  refine wLin 83 i73_82 rfl rfl ?_
  refine eNewA (n := 48) (N := 192) (c := (xZ 192)) 2 384 1 192 i73_83 (by decide) (by decide) rfl rfl rfl rfl ?_
  refine tHeap (h' := [c0, c1, c2, c3, c4, c5, c6, c7, c8, c9, c10, c11, c12, c13, c14, c15, c16, c17, c18, c19, c20, c21, c22, c23, c24, c25, c26, c27, c28, c29, c30, c31, c32, c33, c34, c35, c36, c37, .inr (5, [.ref 39, .ref 40, .ref 41, .ref 42, .ref 43, .ref 44, .ref 45, .ref 46, .ref 47, .null, .null, .int 0]), (xI 192), (xI 192), (xI 192), (xZ 192), (xI 192), (xI 192), (xB 12288), (xJ 12288), (xB 12288), (xZ 192)]) rfl ?_
  refine wPut 88 i73_85 p73_46 rfl (by decide) rfl rfl rfl ?_
  refine tHeap (h' := [c0, c1, c2, c3, c4, c5, c6, c7, c8, c9, c10, c11, c12, c13, c14, c15, c16, c17, c18, c19, c20, c21, c22, c23, c24, c25, c26, c27, c28, c29, c30, c31, c32, c33, c34, c35, c36, c37, .inr (5, [.ref 39, .ref 40, .ref 41, .ref 42, .ref 43, .ref 44, .ref 45, .ref 46, .ref 47, .ref 48, .null, .int 0]), (xI 192), (xI 192), (xI 192), (xZ 192), (xI 192), (xI 192), (xB 12288), (xJ 12288), (xB 12288), (xZ 192)]) rfl ?_
  refine wLan 89 i73_88 rfl rfl ?_
  refine wLin 90 i73_89 rfl rfl ?_
  refine eNewA (n := 49) (N := 192) (c := (xI 192)) 1 192 0 0 i73_90 (by decide) (by decide) rfl rfl rfl rfl ?_
  refine tHeap (h' := [c0, c1, c2, c3, c4, c5, c6, c7, c8, c9, c10, c11, c12, c13, c14, c15, c16, c17, c18, c19, c20, c21, c22, c23, c24, c25, c26, c27, c28, c29, c30, c31, c32, c33, c34, c35, c36, c37, .inr (5, [.ref 39, .ref 40, .ref 41, .ref 42, .ref 43, .ref 44, .ref 45, .ref 46, .ref 47, .ref 48, .null, .int 0]), (xI 192), (xI 192), (xI 192), (xZ 192), (xI 192), (xI 192), (xB 12288), (xJ 12288), (xB 12288), (xZ 192), (xI 192)]) rfl ?_
  refine wPut 95 i73_92 p73_49 rfl (by decide) rfl rfl rfl ?_
  refine tHeap (h' := [c0, c1, c2, c3, c4, c5, c6, c7, c8, c9, c10, c11, c12, c13, c14, c15, c16, c17, c18, c19, c20, c21, c22, c23, c24, c25, c26, c27, c28, c29, c30, c31, c32, c33, c34, c35, c36, c37, .inr (5, [.ref 39, .ref 40, .ref 41, .ref 42, .ref 43, .ref 44, .ref 45, .ref 46, .ref 47, .ref 48, .ref 49, .int 0]), (xI 192), (xI 192), (xI 192), (xZ 192), (xI 192), (xI 192), (xB 12288), (xJ 12288), (xB 12288), (xZ 192), (xI 192)]) rfl ?_
  refine wK 96 0 i73_95 (by decide) rfl ?_
  refine wSin 97 [(2, .int 0), (0, .ref 38), (1, .int 192)] i73_96 m73 (by decide) rfl rfl ?_
  refine told_fill 38 41 _ rfl (by decide) 192 0 0 _ (fun _ => 0) rfl rfl rfl rfl (fun j hj => absurd hj (Nat.not_lt_zero j)) (fun _ _ => rfl) ?_
  refine tHeap (h' := [c0, c1, c2, c3, c4, c5, c6, c7, c8, c9, c10, c11, c12, c13, c14, c15, c16, c17, c18, c19, c20, c21, c22, c23, c24, c25, c26, c27, c28, c29, c30, c31, c32, c33, c34, c35, c36, c37, .inr (5, [.ref 39, .ref 40, .ref 41, .ref 42, .ref 43, .ref 44, .ref 45, .ref 46, .ref 47, .ref 48, .ref 49, .int 0]), (xI 192), (xI 192), .inl (.int, 192, .inl xOne), (xZ 192), (xI 192), (xI 192), (xB 12288), (xJ 12288), (xB 12288), (xZ 192), (xI 192)]) rfl ?_
  refine wR0 i73_115 m73 ?_
  exact rfl
set_option maxHeartbeats 4000000 in
set_option maxRecDepth 100000 in
theorem k_Teller {sc : xS} {d : Nat} (c0 c1 c2 c3 c4 c5 c6 c7 c8 c9 c10 c11 c12 c13 c14 c15 c16 c17 c18 c19 c20 c21 c22 c23 c24 c25 c26 c27 c28 c29 c30 c31 c32 c33 c34 c35 c36 c37 c38 c39 c40 c41 c42 c43 c44 c45 c46 c47 c48 c49 : xE) : xT xg sc (d + 1) 48 0 [(0, .ref 50), (1, .ref 17), (2, .ref 26)] [] [c0, c1, c2, c3, c4, c5, c6, c7, c8, c9, c10, c11, c12, c13, c14, c15, c16, c17, c18, c19, c20, c21, c22, c23, c24, c25, c26, c27, c28, c29, c30, c31, c32, c33, c34, c35, c36, c37, c38, c39, c40, c41, c42, c43, c44, c45, c46, c47, c48, c49, .inr (3, [.null, .null, .int 0, .int 0, .long 0])] (fun r => r = (none, [c0, c1, c2, c3, c4, c5, c6, c7, c8, c9, c10, c11, c12, c13, c14, c15, c16, c17, c18, c19, c20, c21, c22, c23, c24, c25, c26, c27, c28, c29, c30, c31, c32, c33, c34, c35, c36, c37, c38, c39, c40, c41, c42, c43, c44, c45, c46, c47, c48, c49, .inr (3, [.ref 17, .ref 26, .int 0, .int 0, .long 0])], 0, 0)) := by
  refine wLan 1 i48_0 rfl rfl ?_
  refine tObj i48_1 l48_3 (by decide) ?_
  refine wLan 5 i48_4 rfl rfl ?_
  refine wK 6 0 i48_5 (by decide) rfl ?_
  refine wPut 9 i48_6 p48_9 rfl (by decide) rfl rfl rfl ?_
  refine tHeap (h' := [c0, c1, c2, c3, c4, c5, c6, c7, c8, c9, c10, c11, c12, c13, c14, c15, c16, c17, c18, c19, c20, c21, c22, c23, c24, c25, c26, c27, c28, c29, c30, c31, c32, c33, c34, c35, c36, c37, c38, c39, c40, c41, c42, c43, c44, c45, c46, c47, c48, c49, .inr (3, [.null, .null, .int 0, .int 0, .long 0])]) rfl ?_
  refine wLan 10 i48_9 rfl rfl ?_
  refine wK 11 0 i48_10 (by decide) rfl ?_
  refine wPut 14 i48_11 p48_15 rfl (by decide) rfl rfl rfl ?_
  refine tHeap (h' := [c0, c1, c2, c3, c4, c5, c6, c7, c8, c9, c10, c11, c12, c13, c14, c15, c16, c17, c18, c19, c20, c21, c22, c23, c24, c25, c26, c27, c28, c29, c30, c31, c32, c33, c34, c35, c36, c37, c38, c39, c40, c41, c42, c43, c44, c45, c46, c47, c48, c49, .inr (3, [.null, .null, .int 0, .int 0, .long 0])]) rfl ?_
  refine wLan 15 i48_14 rfl rfl ?_
  refine wKl 16 0 i48_15 (by decide) rfl ?_
  refine wPut 19 i48_16 p48_18 rfl (by decide) rfl rfl rfl ?_
  refine tHeap (h' := [c0, c1, c2, c3, c4, c5, c6, c7, c8, c9, c10, c11, c12, c13, c14, c15, c16, c17, c18, c19, c20, c21, c22, c23, c24, c25, c26, c27, c28, c29, c30, c31, c32, c33, c34, c35, c36, c37, c38, c39, c40, c41, c42, c43, c44, c45, c46, c47, c48, c49, .inr (3, [.null, .null, .int 0, .int 0, .long 0])]) rfl ?_
  refine wLan 20 i48_19 rfl rfl ?_
  refine wLan 21 i48_20 rfl rfl ?_
  refine wPut 24 i48_21 p48_22 rfl (by decide) rfl rfl rfl ?_
  refine tHeap (h' := [c0, c1, c2, c3, c4, c5, c6, c7, c8, c9, c10, c11, c12, c13, c14, c15, c16, c17, c18, c19, c20, c21, c22, c23, c24, c25, c26, c27, c28, c29, c30, c31, c32, c33, c34, c35, c36, c37, c38, c39, c40, c41, c42, c43, c44, c45, c46, c47, c48, c49, .inr (3, [.ref 17, .null, .int 0, .int 0, .long 0])]) rfl ?_
  refine wLan 25 i48_24 rfl rfl ?_
  refine wLan 26 i48_25 rfl rfl ?_
  refine wPut 29 i48_26 p48_26 rfl (by decide) rfl rfl rfl ?_
  refine tHeap (h' := [c0, c1, c2, c3, c4, c5, c6, c7, c8, c9, c10, c11, c12, c13, c14, c15, c16, c17, c18, c19, c20, c21, c22, c23, c24, c25, c26, c27, c28, c29, c30, c31, c32, c33, c34, c35, c36, c37, c38, c39, c40, c41, c42, c43, c44, c45, c46, c47, c48, c49, .inr (3, [.ref 17, .ref 26, .int 0, .int 0, .long 0])]) rfl ?_
  refine wR0 i48_29 m48 ?_
  exact rfl
set_option maxHeartbeats 4000000 in
set_option maxRecDepth 100000 in
theorem k_Sheets {sc : xS} {d : Nat} (c0 c1 c2 c3 c4 c5 c6 c7 c8 c9 c10 c11 c12 c13 c14 c15 c16 c17 c18 c19 c20 c21 c22 c23 c24 c25 c26 c27 c28 c29 c30 c31 c32 c33 c34 c35 c36 c37 c38 c39 c40 c41 c42 c43 c44 c45 c46 c47 c48 c49 c50 : xE) : xT xg sc (d + 1) 32 0 [(0, .ref 51)] [] [c0, c1, c2, c3, c4, c5, c6, c7, c8, c9, c10, c11, c12, c13, c14, c15, c16, c17, c18, c19, c20, c21, c22, c23, c24, c25, c26, c27, c28, c29, c30, c31, c32, c33, c34, c35, c36, c37, c38, c39, c40, c41, c42, c43, c44, c45, c46, c47, c48, c49, c50, .inr (2, [.null, .null, .null])] (fun r => r = (none, [c0, c1, c2, c3, c4, c5, c6, c7, c8, c9, c10, c11, c12, c13, c14, c15, c16, c17, c18, c19, c20, c21, c22, c23, c24, c25, c26, c27, c28, c29, c30, c31, c32, c33, c34, c35, c36, c37, c38, c39, c40, c41, c42, c43, c44, c45, c46, c47, c48, c49, c50, .inr (2, [.ref 52, .ref 53, .ref 54]), .inl (.int, 4, .inl (upd (upd (upd (upd (fun _ => 0) 0 (-1)) 1 (-1)) 2 (-1)) 3 (-1))), (xI 4), (xJ 160)], 3, 168)) := by
  refine wLan 1 i32_0 rfl rfl ?_
  refine tObj i32_1 l32_3 (by decide) ?_
  refine wLan 5 i32_4 rfl rfl ?_
  refine wK 6 4 i32_5 (by decide) rfl ?_
  refine eNewA (n := 52) (N := 4) (c := (xI 4)) 3 168 2 164 i32_6 (by decide) (by decide) rfl rfl rfl rfl ?_
  refine tHeap (h' := [c0, c1, c2, c3, c4, c5, c6, c7, c8, c9, c10, c11, c12, c13, c14, c15, c16, c17, c18, c19, c20, c21, c22, c23, c24, c25, c26, c27, c28, c29, c30, c31, c32, c33, c34, c35, c36, c37, c38, c39, c40, c41, c42, c43, c44, c45, c46, c47, c48, c49, c50, .inr (2, [.null, .null, .null]), (xI 4)]) rfl ?_
  refine wPut 11 i32_8 p32_9 rfl (by decide) rfl rfl rfl ?_
  refine tHeap (h' := [c0, c1, c2, c3, c4, c5, c6, c7, c8, c9, c10, c11, c12, c13, c14, c15, c16, c17, c18, c19, c20, c21, c22, c23, c24, c25, c26, c27, c28, c29, c30, c31, c32, c33, c34, c35, c36, c37, c38, c39, c40, c41, c42, c43, c44, c45, c46, c47, c48, c49, c50, .inr (2, [.ref 52, .null, .null]), (xI 4)]) rfl ?_
  refine wLan 12 i32_11 rfl rfl ?_
  refine wK 13 4 i32_12 (by decide) rfl ?_
  refine eNewA (n := 53) (N := 4) (c := (xI 4)) 2 164 1 160 i32_13 (by decide) (by decide) rfl rfl rfl rfl ?_
  refine tHeap (h' := [c0, c1, c2, c3, c4, c5, c6, c7, c8, c9, c10, c11, c12, c13, c14, c15, c16, c17, c18, c19, c20, c21, c22, c23, c24, c25, c26, c27, c28, c29, c30, c31, c32, c33, c34, c35, c36, c37, c38, c39, c40, c41, c42, c43, c44, c45, c46, c47, c48, c49, c50, .inr (2, [.ref 52, .null, .null]), (xI 4), (xI 4)]) rfl ?_
  refine wPut 18 i32_15 p32_15 rfl (by decide) rfl rfl rfl ?_
  refine tHeap (h' := [c0, c1, c2, c3, c4, c5, c6, c7, c8, c9, c10, c11, c12, c13, c14, c15, c16, c17, c18, c19, c20, c21, c22, c23, c24, c25, c26, c27, c28, c29, c30, c31, c32, c33, c34, c35, c36, c37, c38, c39, c40, c41, c42, c43, c44, c45, c46, c47, c48, c49, c50, .inr (2, [.ref 52, .ref 53, .null]), (xI 4), (xI 4)]) rfl ?_
  refine wLan 19 i32_18 rfl rfl ?_
  refine wKs 22 160 i32_19 (by decide) rfl ?_
  refine eNewA (n := 54) (N := 160) (c := (xJ 160)) 1 160 0 0 i32_22 (by decide) (by decide) rfl rfl rfl rfl ?_
  refine tHeap (h' := [c0, c1, c2, c3, c4, c5, c6, c7, c8, c9, c10, c11, c12, c13, c14, c15, c16, c17, c18, c19, c20, c21, c22, c23, c24, c25, c26, c27, c28, c29, c30, c31, c32, c33, c34, c35, c36, c37, c38, c39, c40, c41, c42, c43, c44, c45, c46, c47, c48, c49, c50, .inr (2, [.ref 52, .ref 53, .null]), (xI 4), (xI 4), (xJ 160)]) rfl ?_
  refine wPut 27 i32_24 p32_18 rfl (by decide) rfl rfl rfl ?_
  refine tHeap (h' := [c0, c1, c2, c3, c4, c5, c6, c7, c8, c9, c10, c11, c12, c13, c14, c15, c16, c17, c18, c19, c20, c21, c22, c23, c24, c25, c26, c27, c28, c29, c30, c31, c32, c33, c34, c35, c36, c37, c38, c39, c40, c41, c42, c43, c44, c45, c46, c47, c48, c49, c50, .inr (2, [.ref 52, .ref 53, .ref 54]), (xI 4), (xI 4), (xJ 160)]) rfl ?_
  refine wK 28 0 i32_27 (by decide) rfl ?_
  refine wSin 29 [(1, .int 0), (0, .ref 51)] i32_28 m32 (by decide) rfl rfl ?_
  refine wLin 30 i32_29 rfl rfl ?_
  refine wK 31 4 i32_30 (by decide) rfl ?_
  refine wCF 47 34 i32_31 rfl (by decide) rfl ?_
  refine wLan 35 i32_34 rfl rfl ?_
  refine wGet 38 (.ref 52) i32_35 f32_9 rfl rfl rfl ?_
  refine wLin 39 i32_38 rfl rfl ?_
  refine wK 40 (-1) i32_39 (by decide) rfl ?_
  refine wIas 41 i32_40 rfl (by decide) rfl ?_
  refine tHeap (h' := [c0, c1, c2, c3, c4, c5, c6, c7, c8, c9, c10, c11, c12, c13, c14, c15, c16, c17, c18, c19, c20, c21, c22, c23, c24, c25, c26, c27, c28, c29, c30, c31, c32, c33, c34, c35, c36, c37, c38, c39, c40, c41, c42, c43, c44, c45, c46, c47, c48, c49, c50, .inr (2, [.ref 52, .ref 53, .ref 54]), .inl (.int, 4, .inl (upd (fun _ => 0) 0 (-1))), (xI 4), (xJ 160)]) rfl ?_
  refine wInc 44 [(1, .int 1), (0, .ref 51)] 1 i32_41 m32 (by decide) rfl (by decide) rfl rfl ?_
  refine wGo 29 i32_44 rfl ?_
  refine wLin 30 i32_29 rfl rfl ?_
  refine wK 31 4 i32_30 (by decide) rfl ?_
  refine wCF 47 34 i32_31 rfl (by decide) rfl ?_
  refine wLan 35 i32_34 rfl rfl ?_
  refine wGet 38 (.ref 52) i32_35 f32_9 rfl rfl rfl ?_
  refine wLin 39 i32_38 rfl rfl ?_
  refine wK 40 (-1) i32_39 (by decide) rfl ?_
  refine wIas 41 i32_40 rfl (by decide) rfl ?_
  refine tHeap (h' := [c0, c1, c2, c3, c4, c5, c6, c7, c8, c9, c10, c11, c12, c13, c14, c15, c16, c17, c18, c19, c20, c21, c22, c23, c24, c25, c26, c27, c28, c29, c30, c31, c32, c33, c34, c35, c36, c37, c38, c39, c40, c41, c42, c43, c44, c45, c46, c47, c48, c49, c50, .inr (2, [.ref 52, .ref 53, .ref 54]), .inl (.int, 4, .inl (upd (upd (fun _ => 0) 0 (-1)) 1 (-1))), (xI 4), (xJ 160)]) rfl ?_
  refine wInc 44 [(1, .int 2), (0, .ref 51)] 2 i32_41 m32 (by decide) rfl (by decide) rfl rfl ?_
  refine wGo 29 i32_44 rfl ?_
  refine wLin 30 i32_29 rfl rfl ?_
  refine wK 31 4 i32_30 (by decide) rfl ?_
  refine wCF 47 34 i32_31 rfl (by decide) rfl ?_
  refine wLan 35 i32_34 rfl rfl ?_
  refine wGet 38 (.ref 52) i32_35 f32_9 rfl rfl rfl ?_
  refine wLin 39 i32_38 rfl rfl ?_
  refine wK 40 (-1) i32_39 (by decide) rfl ?_
  refine wIas 41 i32_40 rfl (by decide) rfl ?_
  refine tHeap (h' := [c0, c1, c2, c3, c4, c5, c6, c7, c8, c9, c10, c11, c12, c13, c14, c15, c16, c17, c18, c19, c20, c21, c22, c23, c24, c25, c26, c27, c28, c29, c30, c31, c32, c33, c34, c35, c36, c37, c38, c39, c40, c41, c42, c43, c44, c45, c46, c47, c48, c49, c50, .inr (2, [.ref 52, .ref 53, .ref 54]), .inl (.int, 4, .inl (upd (upd (upd (fun _ => 0) 0 (-1)) 1 (-1)) 2 (-1))), (xI 4), (xJ 160)]) rfl ?_
  refine wInc 44 [(1, .int 3), (0, .ref 51)] 3 i32_41 m32 (by decide) rfl (by decide) rfl rfl ?_
  refine wGo 29 i32_44 rfl ?_
  refine wLin 30 i32_29 rfl rfl ?_
  refine wK 31 4 i32_30 (by decide) rfl ?_
  refine wCF 47 34 i32_31 rfl (by decide) rfl ?_
  refine wLan 35 i32_34 rfl rfl ?_
  refine wGet 38 (.ref 52) i32_35 f32_9 rfl rfl rfl ?_
  refine wLin 39 i32_38 rfl rfl ?_
  refine wK 40 (-1) i32_39 (by decide) rfl ?_
  refine wIas 41 i32_40 rfl (by decide) rfl ?_
  refine tHeap (h' := [c0, c1, c2, c3, c4, c5, c6, c7, c8, c9, c10, c11, c12, c13, c14, c15, c16, c17, c18, c19, c20, c21, c22, c23, c24, c25, c26, c27, c28, c29, c30, c31, c32, c33, c34, c35, c36, c37, c38, c39, c40, c41, c42, c43, c44, c45, c46, c47, c48, c49, c50, .inr (2, [.ref 52, .ref 53, .ref 54]), .inl (.int, 4, .inl (upd (upd (upd (upd (fun _ => 0) 0 (-1)) 1 (-1)) 2 (-1)) 3 (-1))), (xI 4), (xJ 160)]) rfl ?_
  refine wInc 44 [(1, .int 4), (0, .ref 51)] 4 i32_41 m32 (by decide) rfl (by decide) rfl rfl ?_
  refine wGo 29 i32_44 rfl ?_
  refine wLin 30 i32_29 rfl rfl ?_
  refine wK 31 4 i32_30 (by decide) rfl ?_
  refine wCT 47 i32_31 rfl (by decide) ?_
  refine wR0 i32_47 m32 ?_
  exact rfl
set_option maxHeartbeats 4000000 in
set_option maxRecDepth 100000 in
theorem k_Texts_b {sc : xS} {d : Nat} (c0 c1 c2 c3 c4 c5 c6 c7 c8 c9 c10 c11 c12 c13 c14 c15 c16 c17 c18 c19 c20 c21 c22 c23 c24 c25 c26 c27 c28 c29 c30 c31 c32 c33 c34 c35 c36 c37 c38 c39 c40 c41 c42 c43 c44 c45 c46 c47 c48 c49 c50 c51 c52 c53 c54 c55 : xE) : xT xg sc (d + 1) 66 0 [(0, .ref 56), (1, .int 8)] [] [c0, c1, c2, c3, c4, c5, c6, c7, c8, c9, c10, c11, c12, c13, c14, c15, c16, c17, c18, c19, c20, c21, c22, c23, c24, c25, c26, c27, c28, c29, c30, c31, c32, c33, c34, c35, c36, c37, c38, c39, c40, c41, c42, c43, c44, c45, c46, c47, c48, c49, c50, c51, c52, c53, c54, c55, .inr (4, [.null, .null, .null, .null, .null, .null, .null, .null])] (fun r => r = (none, [c0, c1, c2, c3, c4, c5, c6, c7, c8, c9, c10, c11, c12, c13, c14, c15, c16, c17, c18, c19, c20, c21, c22, c23, c24, c25, c26, c27, c28, c29, c30, c31, c32, c33, c34, c35, c36, c37, c38, c39, c40, c41, c42, c43, c44, c45, c46, c47, c48, c49, c50, c51, c52, c53, c54, c55, .inr (4, [.ref 57, .ref 58, .ref 59, .ref 60, .ref 61, .ref 62, .ref 63, .ref 64]), (xI 8), (xI 192), (xI 192), (xI 192), (xI 192), (xI 192), (xI 192), (xJ 1536)], 8, 2696)) := by
  refine wLan 1 i66_0 rfl rfl ?_
  refine tObj i66_1 l66_3 (by decide) ?_
  refine wLin 5 i66_4 rfl rfl ?_
  refine wKb 7 24 i66_5 (by decide) rfl ?_
  refine wA 8 i66_7 rfl rfl rfl ?_
  refine tTop (v := 192) (by decide) ?_
  refine wSin 9 [(2, .int 192), (0, .ref 56), (1, .int 8)] i66_8 m66 (by decide) rfl rfl ?_
  refine wLan 10 i66_9 rfl rfl ?_
  refine wLin 11 i66_10 rfl rfl ?_
  refine eNewA (n := 57) (N := 8) (c := (xI 8)) 8 2696 7 2688 i66_11 (by decide) (by decide) rfl rfl rfl rfl ?_
  refine tHeap (h' := [c0, c1, c2, c3, c4, c5, c6, c7, c8, c9, c10, c11, c12, c13, c14, c15, c16, c17, c18, c19, c20, c21, c22, c23, c24, c25, c26, c27, c28, c29, c30, c31, c32, c33, c34, c35, c36, c37, c38, c39, c40, c41, c42, c43, c44, c45, c46, c47, c48, c49, c50, c51, c52, c53, c54, c55, .inr (4, [.null, .null, .null, .null, .null, .null, .null, .null]), (xI 8)]) rfl ?_
  refine wPut 16 i66_13 p66_9 rfl (by decide) rfl rfl rfl ?_
  refine tHeap (h' := [c0, c1, c2, c3, c4, c5, c6, c7, c8, c9, c10, c11, c12, c13, c14, c15, c16, c17, c18, c19, c20, c21, c22, c23, c24, c25, c26, c27, c28, c29, c30, c31, c32, c33, c34, c35, c36, c37, c38, c39, c40, c41, c42, c43, c44, c45, c46, c47, c48, c49, c50, c51, c52, c53, c54, c55, .inr (4, [.ref 57, .null, .null, .null, .null, .null, .null, .null]), (xI 8)]) rfl ?_
  refine wLan 17 i66_16 rfl rfl ?_
  refine wLin 18 i66_17 rfl rfl ?_
  refine eNewA (n := 58) (N := 192) (c := (xI 192)) 7 2688 6 2496 i66_18 (by decide) (by decide) rfl rfl rfl rfl ?_
  refine tHeap (h' := [c0, c1, c2, c3, c4, c5, c6, c7, c8, c9, c10, c11, c12, c13, c14, c15, c16, c17, c18, c19, c20, c21, c22, c23, c24, c25, c26, c27, c28, c29, c30, c31, c32, c33, c34, c35, c36, c37, c38, c39, c40, c41, c42, c43, c44, c45, c46, c47, c48, c49, c50, c51, c52, c53, c54, c55, .inr (4, [.ref 57, .null, .null, .null, .null, .null, .null, .null]), (xI 8), (xI 192)]) rfl ?_
  refine wPut 23 i66_20 p66_15 rfl (by decide) rfl rfl rfl ?_
  refine tHeap (h' := [c0, c1, c2, c3, c4, c5, c6, c7, c8, c9, c10, c11, c12, c13, c14, c15, c16, c17, c18, c19, c20, c21, c22, c23, c24, c25, c26, c27, c28, c29, c30, c31, c32, c33, c34, c35, c36, c37, c38, c39, c40, c41, c42, c43, c44, c45, c46, c47, c48, c49, c50, c51, c52, c53, c54, c55, .inr (4, [.ref 57, .ref 58, .null, .null, .null, .null, .null, .null]), (xI 8), (xI 192)]) rfl ?_
  refine wLan 24 i66_23 rfl rfl ?_
  refine wLin 25 i66_24 rfl rfl ?_
  refine eNewA (n := 59) (N := 192) (c := (xI 192)) 6 2496 5 2304 i66_25 (by decide) (by decide) rfl rfl rfl rfl ?_
  refine tHeap (h' := [c0, c1, c2, c3, c4, c5, c6, c7, c8, c9, c10, c11, c12, c13, c14, c15, c16, c17, c18, c19, c20, c21, c22, c23, c24, c25, c26, c27, c28, c29, c30, c31, c32, c33, c34, c35, c36, c37, c38, c39, c40, c41, c42, c43, c44, c45, c46, c47, c48, c49, c50, c51, c52, c53, c54, c55, .inr (4, [.ref 57, .ref 58, .null, .null, .null, .null, .null, .null]), (xI 8), (xI 192), (xI 192)]) rfl ?_
  refine wPut 30 i66_27 p66_18 rfl (by decide) rfl rfl rfl ?_
  refine tHeap (h' := [c0, c1, c2, c3, c4, c5, c6, c7, c8, c9, c10, c11, c12, c13, c14, c15, c16, c17, c18, c19, c20, c21, c22, c23, c24, c25, c26, c27, c28, c29, c30, c31, c32, c33, c34, c35, c36, c37, c38, c39, c40, c41, c42, c43, c44, c45, c46, c47, c48, c49, c50, c51, c52, c53, c54, c55, .inr (4, [.ref 57, .ref 58, .ref 59, .null, .null, .null, .null, .null]), (xI 8), (xI 192), (xI 192)]) rfl ?_
  refine wLan 31 i66_30 rfl rfl ?_
  refine wLin 32 i66_31 rfl rfl ?_
  refine eNewA (n := 60) (N := 192) (c := (xI 192)) 5 2304 4 2112 i66_32 (by decide) (by decide) rfl rfl rfl rfl ?_
  refine tHeap (h' := [c0, c1, c2, c3, c4, c5, c6, c7, c8, c9, c10, c11, c12, c13, c14, c15, c16, c17, c18, c19, c20, c21, c22, c23, c24, c25, c26, c27, c28, c29, c30, c31, c32, c33, c34, c35, c36, c37, c38, c39, c40, c41, c42, c43, c44, c45, c46, c47, c48, c49, c50, c51, c52, c53, c54, c55, .inr (4, [.ref 57, .ref 58, .ref 59, .null, .null, .null, .null, .null]), (xI 8), (xI 192), (xI 192), (xI 192)]) rfl ?_
  refine wPut 37 i66_34 p66_21 rfl (by decide) rfl rfl rfl ?_
  refine tHeap (h' := [c0, c1, c2, c3, c4, c5, c6, c7, c8, c9, c10, c11, c12, c13, c14, c15, c16, c17, c18, c19, c20, c21, c22, c23, c24, c25, c26, c27, c28, c29, c30, c31, c32, c33, c34, c35, c36, c37, c38, c39, c40, c41, c42, c43, c44, c45, c46, c47, c48, c49, c50, c51, c52, c53, c54, c55, .inr (4, [.ref 57, .ref 58, .ref 59, .ref 60, .null, .null, .null, .null]), (xI 8), (xI 192), (xI 192), (xI 192)]) rfl ?_
  refine wLan 38 i66_37 rfl rfl ?_
  refine wLin 39 i66_38 rfl rfl ?_
  refine eNewA (n := 61) (N := 192) (c := (xI 192)) 4 2112 3 1920 i66_39 (by decide) (by decide) rfl rfl rfl rfl ?_
  refine tHeap (h' := [c0, c1, c2, c3, c4, c5, c6, c7, c8, c9, c10, c11, c12, c13, c14, c15, c16, c17, c18, c19, c20, c21, c22, c23, c24, c25, c26, c27, c28, c29, c30, c31, c32, c33, c34, c35, c36, c37, c38, c39, c40, c41, c42, c43, c44, c45, c46, c47, c48, c49, c50, c51, c52, c53, c54, c55, .inr (4, [.ref 57, .ref 58, .ref 59, .ref 60, .null, .null, .null, .null]), (xI 8), (xI 192), (xI 192), (xI 192), (xI 192)]) rfl ?_
  refine wPut 44 i66_41 p66_24 rfl (by decide) rfl rfl rfl ?_
  refine tHeap (h' := [c0, c1, c2, c3, c4, c5, c6, c7, c8, c9, c10, c11, c12, c13, c14, c15, c16, c17, c18, c19, c20, c21, c22, c23, c24, c25, c26, c27, c28, c29, c30, c31, c32, c33, c34, c35, c36, c37, c38, c39, c40, c41, c42, c43, c44, c45, c46, c47, c48, c49, c50, c51, c52, c53, c54, c55, .inr (4, [.ref 57, .ref 58, .ref 59, .ref 60, .ref 61, .null, .null, .null]), (xI 8), (xI 192), (xI 192), (xI 192), (xI 192)]) rfl ?_
  refine wLan 45 i66_44 rfl rfl ?_
  refine wLin 46 i66_45 rfl rfl ?_
  refine eNewA (n := 62) (N := 192) (c := (xI 192)) 3 1920 2 1728 i66_46 (by decide) (by decide) rfl rfl rfl rfl ?_
  refine tHeap (h' := [c0, c1, c2, c3, c4, c5, c6, c7, c8, c9, c10, c11, c12, c13, c14, c15, c16, c17, c18, c19, c20, c21, c22, c23, c24, c25, c26, c27, c28, c29, c30, c31, c32, c33, c34, c35, c36, c37, c38, c39, c40, c41, c42, c43, c44, c45, c46, c47, c48, c49, c50, c51, c52, c53, c54, c55, .inr (4, [.ref 57, .ref 58, .ref 59, .ref 60, .ref 61, .null, .null, .null]), (xI 8), (xI 192), (xI 192), (xI 192), (xI 192), (xI 192)]) rfl ?_
  refine wPut 51 i66_48 p66_27 rfl (by decide) rfl rfl rfl ?_
  refine tHeap (h' := [c0, c1, c2, c3, c4, c5, c6, c7, c8, c9, c10, c11, c12, c13, c14, c15, c16, c17, c18, c19, c20, c21, c22, c23, c24, c25, c26, c27, c28, c29, c30, c31, c32, c33, c34, c35, c36, c37, c38, c39, c40, c41, c42, c43, c44, c45, c46, c47, c48, c49, c50, c51, c52, c53, c54, c55, .inr (4, [.ref 57, .ref 58, .ref 59, .ref 60, .ref 61, .ref 62, .null, .null]), (xI 8), (xI 192), (xI 192), (xI 192), (xI 192), (xI 192)]) rfl ?_
  refine wLan 52 i66_51 rfl rfl ?_
  refine wLin 53 i66_52 rfl rfl ?_
  refine eNewA (n := 63) (N := 192) (c := (xI 192)) 2 1728 1 1536 i66_53 (by decide) (by decide) rfl rfl rfl rfl ?_
  refine tHeap (h' := [c0, c1, c2, c3, c4, c5, c6, c7, c8, c9, c10, c11, c12, c13, c14, c15, c16, c17, c18, c19, c20, c21, c22, c23, c24, c25, c26, c27, c28, c29, c30, c31, c32, c33, c34, c35, c36, c37, c38, c39, c40, c41, c42, c43, c44, c45, c46, c47, c48, c49, c50, c51, c52, c53, c54, c55, .inr (4, [.ref 57, .ref 58, .ref 59, .ref 60, .ref 61, .ref 62, .null, .null]), (xI 8), (xI 192), (xI 192), (xI 192), (xI 192), (xI 192), (xI 192)]) rfl ?_
  refine wPut 58 i66_55 p66_30 rfl (by decide) rfl rfl rfl ?_
  refine tHeap (h' := [c0, c1, c2, c3, c4, c5, c6, c7, c8, c9, c10, c11, c12, c13, c14, c15, c16, c17, c18, c19, c20, c21, c22, c23, c24, c25, c26, c27, c28, c29, c30, c31, c32, c33, c34, c35, c36, c37, c38, c39, c40, c41, c42, c43, c44, c45, c46, c47, c48, c49, c50, c51, c52, c53, c54, c55, .inr (4, [.ref 57, .ref 58, .ref 59, .ref 60, .ref 61, .ref 62, .ref 63, .null]), (xI 8), (xI 192), (xI 192), (xI 192), (xI 192), (xI 192), (xI 192)]) rfl ?_
  refine wLan 59 i66_58 rfl rfl ?_
  refine wLin 60 i66_59 rfl rfl ?_
  refine wKb 62 8 i66_60 (by decide) rfl ?_
  refine wA 63 i66_62 rfl rfl rfl ?_
  refine tTop (v := 1536) (by decide) ?_
  refine eNewA (n := 64) (N := 1536) (c := (xJ 1536)) 1 1536 0 0 i66_63 (by decide) (by decide) rfl rfl rfl rfl ?_
  refine tHeap (h' := [c0, c1, c2, c3, c4, c5, c6, c7, c8, c9, c10, c11, c12, c13, c14, c15, c16, c17, c18, c19, c20, c21, c22, c23, c24, c25, c26, c27, c28, c29, c30, c31, c32, c33, c34, c35, c36, c37, c38, c39, c40, c41, c42, c43, c44, c45, c46, c47, c48, c49, c50, c51, c52, c53, c54, c55, .inr (4, [.ref 57, .ref 58, .ref 59, .ref 60, .ref 61, .ref 62, .ref 63, .null]), (xI 8), (xI 192), (xI 192), (xI 192), (xI 192), (xI 192), (xI 192), (xJ 1536)]) rfl ?_
  refine wPut 68 i66_65 p66_33 rfl (by decide) rfl rfl rfl ?_
  refine tHeap (h' := [c0, c1, c2, c3, c4, c5, c6, c7, c8, c9, c10, c11, c12, c13, c14, c15, c16, c17, c18, c19, c20, c21, c22, c23, c24, c25, c26, c27, c28, c29, c30, c31, c32, c33, c34, c35, c36, c37, c38, c39, c40, c41, c42, c43, c44, c45, c46, c47, c48, c49, c50, c51, c52, c53, c54, c55, .inr (4, [.ref 57, .ref 58, .ref 59, .ref 60, .ref 61, .ref 62, .ref 63, .ref 64]), (xI 8), (xI 192), (xI 192), (xI 192), (xI 192), (xI 192), (xI 192), (xJ 1536)]) rfl ?_
  refine wR0 i66_68 m66 ?_
  exact rfl
set_option maxHeartbeats 4000000 in
set_option maxRecDepth 100000 in
theorem k_Told_c {sc : xS} {d : Nat} (c0 c1 c2 c3 c4 c5 c6 c7 c8 c9 c10 c11 c12 c13 c14 c15 c16 c17 c18 c19 c20 c21 c22 c23 c24 c25 c26 c27 c28 c29 c30 c31 c32 c33 c34 c35 c36 c37 c38 c39 c40 c41 c42 c43 c44 c45 c46 c47 c48 c49 c50 c51 c52 c53 c54 c55 c56 c57 c58 c59 c60 c61 c62 c63 c64 : xE) : xT xg sc (d + 1) 73 0 [(0, .ref 65), (1, .int 192)] [] [c0, c1, c2, c3, c4, c5, c6, c7, c8, c9, c10, c11, c12, c13, c14, c15, c16, c17, c18, c19, c20, c21, c22, c23, c24, c25, c26, c27, c28, c29, c30, c31, c32, c33, c34, c35, c36, c37, c38, c39, c40, c41, c42, c43, c44, c45, c46, c47, c48, c49, c50, c51, c52, c53, c54, c55, c56, c57, c58, c59, c60, c61, c62, c63, c64, .inr (5, [.null, .null, .null, .null, .null, .null, .null, .null, .null, .null, .null, .int 0])] (fun r => r = (none, [c0, c1, c2, c3, c4, c5, c6, c7, c8, c9, c10, c11, c12, c13, c14, c15, c16, c17, c18, c19, c20, c21, c22, c23, c24, c25, c26, c27, c28, c29, c30, c31, c32, c33, c34, c35, c36, c37, c38, c39, c40, c41, c42, c43, c44, c45, c46, c47, c48, c49, c50, c51, c52, c53, c54, c55, c56, c57, c58, c59, c60, c61, c62, c63, c64, .inr (5, [.ref 66, .ref 67, .ref 68, .ref 69, .ref 70, .ref 71, .ref 72, .ref 73, .ref 74, .ref 75, .ref 76, .int 0]), (xI 192), (xI 192), .inl (.int, 192, .inl xOne), (xZ 192), (xI 192), (xI 192), (xB 12288), (xJ 12288), (xB 12288), (xZ 192), (xI 192)], 11, 38400)) := by
  refine wLan 1 i73_0 rfl rfl ?_
  refine tObj i73_1 l73_3 (by decide) ?_
  refine wLan 5 i73_4 rfl rfl ?_
  refine wK 6 0 i73_5 (by decide) rfl ?_
  refine wPut 9 i73_6 p73_9 rfl (by decide) rfl rfl rfl ?_
  refine tHeap (h' := [c0, c1, c2, c3, c4, c5, c6, c7, c8, c9, c10, c11, c12, c13, c14, c15, c16, c17, c18, c19, c20, c21, c22, c23, c24, c25, c26, c27, c28, c29, c30, c31, c32, c33, c34, c35, c36, c37, c38, c39, c40, c41, c42, c43, c44, c45, c46, c47, c48, c49, c50, c51, c52, c53, c54, c55, c56, c57, c58, c59, c60, c61, c62, c63, c64, .inr (5, [.null, .null, .null, .null, .null, .null, .null, .null, .null, .null, .null, .int 0])]) rfl ?_
  refine wLan 10 i73_9 rfl rfl ?_
  refine wLin 11 i73_10 rfl rfl ?_
  refine eNewA (n := 66) (N := 192) (c := (xI 192)) 11 38400 10 38208 i73_11 (by decide) (by decide) rfl rfl rfl rfl ?_
  refine tHeap (h' := [c0, c1, c2, c3, c4, c5, c6, c7, c8, c9, c10, c11, c12, c13, c14, c15, c16, c17, c18, c19, c20, c21, c22, c23, c24, c25, c26, c27, c28, c29, c30, c31, c32, c33, c34, c35, c36, c37, c38, c39, c40, c41, c42, c43, c44, c45, c46, c47, c48, c49, c50, c51, c52, c53, c54, c55, c56, c57, c58, c59, c60, c61, c62, c63, c64, .inr (5, [.null, .null, .null, .null, .null, .null, .null, .null, .null, .null, .null, .int 0]), (xI 192)]) rfl ?_
  refine wPut 16 i73_13 p73_15 rfl (by decide) rfl rfl rfl ?_
  refine tHeap (h' := [c0, c1, c2, c3, c4, c5, c6, c7, c8, c9, c10, c11, c12, c13, c14, c15, c16, c17, c18, c19, c20, c21, c22, c23, c24, c25, c26, c27, c28, c29, c30, c31, c32, c33, c34, c35, c36, c37, c38, c39, c40, c41, c42, c43, c44, c45, c46, c47, c48, c49, c50, c51, c52, c53, c54, c55, c56, c57, c58, c59, c60, c61, c62, c63, c64, .inr (5, [.ref 66, .null, .null, .null, .null, .null, .null, .null, .null, .null, .null, .int 0]), (xI 192)]) rfl ?_
  refine wLan 17 i73_16 rfl rfl ?_
  refine wLin 18 i73_17 rfl rfl ?_
  refine eNewA (n := 67) (N := 192) (c := (xI 192)) 10 38208 9 38016 i73_18 (by decide) (by decide) rfl rfl rfl rfl ?_
  refine tHeap (h' := [c0, c1, c2, c3, c4, c5, c6, c7, c8, c9, c10, c11, c12, c13, c14, c15, c16, c17, c18, c19, c20, c21, c22, c23, c24, c25, c26, c27, c28, c29, c30, c31, c32, c33, c34, c35, c36, c37, c38, c39, c40, c41, c42, c43, c44, c45, c46, c47, c48, c49, c50, c51, c52, c53, c54, c55, c56, c57, c58, c59, c60, c61, c62, c63, c64, .inr (5, [.ref 66, .null, .null, .null, .null, .null, .null, .null, .null, .null, .null, .int 0]), (xI 192), (xI 192)]) rfl ?_
  refine wPut 23 i73_20 p73_19 rfl (by decide) rfl rfl rfl ?_
  refine tHeap (h' := [c0, c1, c2, c3, c4, c5, c6, c7, c8, c9, c10, c11, c12, c13, c14, c15, c16, c17, c18, c19, c20, c21, c22, c23, c24, c25, c26, c27, c28, c29, c30, c31, c32, c33, c34, c35, c36, c37, c38, c39, c40, c41, c42, c43, c44, c45, c46, c47, c48, c49, c50, c51, c52, c53, c54, c55, c56, c57, c58, c59, c60, c61, c62, c63, c64, .inr (5, [.ref 66, .ref 67, .null, .null, .null, .null, .null, .null, .null, .null, .null, .int 0]), (xI 192), (xI 192)]) rfl ?_
  refine wLan 24 i73_23 rfl rfl ?_
  refine wLin 25 i73_24 rfl rfl ?_
  refine eNewA (n := 68) (N := 192) (c := (xI 192)) 9 38016 8 37824 i73_25 (by decide) (by decide) rfl rfl rfl rfl ?_
  refine tHeap (h' := [c0, c1, c2, c3, c4, c5, c6, c7, c8, c9, c10, c11, c12, c13, c14, c15, c16, c17, c18, c19, c20, c21, c22, c23, c24, c25, c26, c27, c28, c29, c30, c31, c32, c33, c34, c35, c36, c37, c38, c39, c40, c41, c42, c43, c44, c45, c46, c47, c48, c49, c50, c51, c52, c53, c54, c55, c56, c57, c58, c59, c60, c61, c62, c63, c64, .inr (5, [.ref 66, .ref 67, .null, .null, .null, .null, .null, .null, .null, .null, .null, .int 0]), (xI 192), (xI 192), (xI 192)]) rfl ?_
  refine wPut 30 i73_27 p73_22 rfl (by decide) rfl rfl rfl ?_
  refine tHeap (h' := [c0, c1, c2, c3, c4, c5, c6, c7, c8, c9, c10, c11, c12, c13, c14, c15, c16, c17, c18, c19, c20, c21, c22, c23, c24, c25, c26, c27, c28, c29, c30, c31, c32, c33, c34, c35, c36, c37, c38, c39, c40, c41, c42, c43, c44, c45, c46, c47, c48, c49, c50, c51, c52, c53, c54, c55, c56, c57, c58, c59, c60, c61, c62, c63, c64, .inr (5, [.ref 66, .ref 67, .ref 68, .null, .null, .null, .null, .null, .null, .null, .null, .int 0]), (xI 192), (xI 192), (xI 192)]) rfl ?_
  refine wLan 31 i73_30 rfl rfl ?_
  refine wLin 32 i73_31 rfl rfl ?_
  refine eNewA (n := 69) (N := 192) (c := (xZ 192)) 8 37824 7 37632 i73_32 (by decide) (by decide) rfl rfl rfl rfl ?_
  refine tHeap (h' := [c0, c1, c2, c3, c4, c5, c6, c7, c8, c9, c10, c11, c12, c13, c14, c15, c16, c17, c18, c19, c20, c21, c22, c23, c24, c25, c26, c27, c28, c29, c30, c31, c32, c33, c34, c35, c36, c37, c38, c39, c40, c41, c42, c43, c44, c45, c46, c47, c48, c49, c50, c51, c52, c53, c54, c55, c56, c57, c58, c59, c60, c61, c62, c63, c64, .inr (5, [.ref 66, .ref 67, .ref 68, .null, .null, .null, .null, .null, .null, .null, .null, .int 0]), (xI 192), (xI 192), (xI 192), (xZ 192)]) rfl ?_
  refine wPut 37 i73_34 p73_25 rfl (by decide) rfl rfl rfl ?_
  refine tHeap (h' := [c0, c1, c2, c3, c4, c5, c6, c7, c8, c9, c10, c11, c12, c13, c14, c15, c16, c17, c18, c19, c20, c21, c22, c23, c24, c25, c26, c27, c28, c29, c30, c31, c32, c33, c34, c35, c36, c37, c38, c39, c40, c41, c42, c43, c44, c45, c46, c47, c48, c49, c50, c51, c52, c53, c54, c55, c56, c57, c58, c59, c60, c61, c62, c63, c64, .inr (5, [.ref 66, .ref 67, .ref 68, .ref 69, .null, .null, .null, .null, .null, .null, .null, .int 0]), (xI 192), (xI 192), (xI 192), (xZ 192)]) rfl ?_
  refine wLan 38 i73_37 rfl rfl ?_
  refine wLin 39 i73_38 rfl rfl ?_
  refine eNewA (n := 70) (N := 192) (c := (xI 192)) 7 37632 6 37440 i73_39 (by decide) (by decide) rfl rfl rfl rfl ?_
  refine tHeap (h' := [c0, c1, c2, c3, c4, c5, c6, c7, c8, c9, c10, c11, c12, c13, c14, c15, c16, c17, c18, c19, c20, c21, c22, c23, c24, c25, c26, c27, c28, c29, c30, c31, c32, c33, c34, c35, c36, c37, c38, c39, c40, c41, c42, c43, c44, c45, c46, c47, c48, c49, c50, c51, c52, c53, c54, c55, c56, c57, c58, c59, c60, c61, c62, c63, c64, .inr (5, [.ref 66, .ref 67, .ref 68, .ref 69, .null, .null, .null, .null, .null, .null, .null, .int 0]), (xI 192), (xI 192), (xI 192), (xZ 192), (xI 192)]) rfl ?_
  refine wPut 44 i73_41 p73_29 rfl (by decide) rfl rfl rfl ?_
  refine tHeap (h' := [c0, c1, c2, c3, c4, c5, c6, c7, c8, c9, c10, c11, c12, c13, c14, c15, c16, c17, c18, c19, c20, c21, c22, c23, c24, c25, c26, c27, c28, c29, c30, c31, c32, c33, c34, c35, c36, c37, c38, c39, c40, c41, c42, c43, c44, c45, c46, c47, c48, c49, c50, c51, c52, c53, c54, c55, c56, c57, c58, c59, c60, c61, c62, c63, c64, .inr (5, [.ref 66, .ref 67, .ref 68, .ref 69, .ref 70, .null, .null, .null, .null, .null, .null, .int 0]), (xI 192), (xI 192), (xI 192), (xZ 192), (xI 192)]) rfl ?_
  refine wLan 45 i73_44 rfl rfl ?_
  refine wLin 46 i73_45 rfl rfl ?_
  refine eNewA (n := 71) (N := 192) (c := (xI 192)) 6 37440 5 37248 i73_46 (by decide) (by decide) rfl rfl rfl rfl ?_
  refine tHeap (h' := [c0, c1, c2, c3, c4, c5, c6, c7, c8, c9, c10, c11, c12, c13, c14, c15, c16, c17, c18, c19, c20, c21, c22, c23, c24, c25, c26, c27, c28, c29, c30, c31, c32, c33, c34, c35, c36, c37, c38, c39, c40, c41, c42, c43, c44, c45, c46, c47, c48, c49, c50, c51, c52, c53, c54, c55, c56, c57, c58, c59, c60, c61, c62, c63, c64, .inr (5, [.ref 66, .ref 67, .ref 68, .ref 69, .ref 70, .null, .null, .null, .null, .null, .null, .int 0]), (xI 192), (xI 192), (xI 192), (xZ 192), (xI 192), (xI 192)]) rfl ?_
  refine wPut 51 i73_48 p73_32 rfl (by decide) rfl rfl rfl ?_
  refine tHeap (h' := [c0, c1, c2, c3, c4, c5, c6, c7, c8, c9, c10, c11, c12, c13, c14, c15, c16, c17, c18, c19, c20, c21, c22, c23, c24, c25, c26, c27, c28, c29, c30, c31, c32, c33, c34, c35, c36, c37, c38, c39, c40, c41, c42, c43, c44, c45, c46, c47, c48, c49, c50, c51, c52, c53, c54, c55, c56, c57, c58, c59, c60, c61, c62, c63, c64, .inr (5, [.ref 66, .ref 67, .ref 68, .ref 69, .ref 70, .ref 71, .null, .null, .null, .null, .null, .int 0]), (xI 192), (xI 192), (xI 192), (xZ 192), (xI 192), (xI 192)]) rfl ?_
  refine wLan 52 i73_51 rfl rfl ?_
  refine wLin 53 i73_52 rfl rfl ?_
  refine wKb 55 64 i73_53 (by decide) rfl ?_
  refine wA 56 i73_55 rfl rfl rfl ?_
  refine tTop (v := 12288) (by decide) ?_
  refine eNewA (n := 72) (N := 12288) (c := (xB 12288)) 5 37248 4 24960 i73_56 (by decide) (by decide) rfl rfl rfl rfl ?_
  refine tHeap (h' := [c0, c1, c2, c3, c4, c5, c6, c7, c8, c9, c10, c11, c12, c13, c14, c15, c16, c17, c18, c19, c20, c21, c22, c23, c24, c25, c26, c27, c28, c29, c30, c31, c32, c33, c34, c35, c36, c37, c38, c39, c40, c41, c42, c43, c44, c45, c46, c47, c48, c49, c50, c51, c52, c53, c54, c55, c56, c57, c58, c59, c60, c61, c62, c63, c64, .inr (5, [.ref 66, .ref 67, .ref 68, .ref 69, .ref 70, .ref 71, .null, .null, .null, .null, .null, .int 0]), (xI 192), (xI 192), (xI 192), (xZ 192), (xI 192), (xI 192), (xB 12288)]) rfl ?_
  refine wPut 61 i73_58 p73_35 rfl (by decide) rfl rfl rfl ?_
  refine tHeap (h' := [c0, c1, c2, c3, c4, c5, c6, c7, c8, c9, c10, c11, c12, c13, c14, c15, c16, c17, c18, c19, c20, c21, c22, c23, c24, c25, c26, c27, c28, c29, c30, c31, c32, c33, c34, c35, c36, c37, c38, c39, c40, c41, c42, c43, c44, c45, c46, c47, c48, c49, c50, c51, c52, c53, c54, c55, c56, c57, c58, c59, c60, c61, c62, c63, c64, .inr (5, [.ref 66, .ref 67, .ref 68, .ref 69, .ref 70, .ref 71, .ref 72, .null, .null, .null, .null, .int 0]), (xI 192), (xI 192), (xI 192), (xZ 192), (xI 192), (xI 192), (xB 12288)]) rfl ?_
  refine wLan 62 i73_61 rfl rfl ?_
  refine wLin 63 i73_62 rfl rfl ?_
  refine wKb 65 64 i73_63 (by decide) rfl ?_
  refine wA 66 i73_65 rfl rfl rfl ?_
  refine tTop (v := 12288) (by decide) ?_
  refine eNewA (n := 73) (N := 12288) (c := (xJ 12288)) 4 24960 3 12672 i73_66 (by decide) (by decide) rfl rfl rfl rfl ?_
  refine tHeap (h' := [c0, c1, c2, c3, c4, c5, c6, c7, c8, c9, c10, c11, c12, c13, c14, c15, c16, c17, c18, c19, c20, c21, c22, c23, c24, c25, c26, c27, c28, c29, c30, c31, c32, c33, c34, c35, c36, c37, c38, c39, c40, c41, c42, c43, c44, c45, c46, c47, c48, c49, c50, c51, c52, c53, c54, c55, c56, c57, c58, c59, c60, c61, c62, c63, c64, .inr (5, [.ref 66, .ref 67, .ref 68, .ref 69, .ref 70, .ref 71, .ref 72, .null, .null, .null, .null, .int 0]), (xI 192), (xI 192), (xI 192), (xZ 192), (xI 192), (xI 192), (xB 12288), (xJ 12288)]) rfl ?_
  refine wPut 71 i73_68 p73_39 rfl (by decide) rfl rfl rfl ?_
  refine tHeap (h' := [c0, c1, c2, c3, c4, c5, c6, c7, c8, c9, c10, c11, c12, c13, c14, c15, c16, c17, c18, c19, c20, c21, c22, c23, c24, c25, c26, c27, c28, c29, c30, c31, c32, c33, c34, c35, c36, c37, c38, c39, c40, c41, c42, c43, c44, c45, c46, c47, c48, c49, c50, c51, c52, c53, c54, c55, c56, c57, c58, c59, c60, c61, c62, c63, c64, .inr (5, [.ref 66, .ref 67, .ref 68, .ref 69, .ref 70, .ref 71, .ref 72, .ref 73, .null, .null, .null, .int 0]), (xI 192), (xI 192), (xI 192), (xZ 192), (xI 192), (xI 192), (xB 12288), (xJ 12288)]) rfl ?_
  refine wLan 72 i73_71 rfl rfl ?_
  refine wLin 73 i73_72 rfl rfl ?_
  refine wKb 75 64 i73_73 (by decide) rfl ?_
  refine wA 76 i73_75 rfl rfl rfl ?_
  refine tTop (v := 12288) (by decide) ?_
  refine eNewA (n := 74) (N := 12288) (c := (xB 12288)) 3 12672 2 384 i73_76 (by decide) (by decide) rfl rfl rfl rfl ?_
  refine tHeap (h' := [c0, c1, c2, c3, c4, c5, c6, c7, c8, c9, c10, c11, c12, c13, c14, c15, c16, c17, c18, c19, c20, c21, c22, c23, c24, c25, c26, c27, c28, c29, c30, c31, c32, c33, c34, c35, c36, c37, c38, c39, c40, c41, c42, c43, c44, c45, c46, c47, c48, c49, c50, c51, c52, c53, c54, c55, c56, c57, c58, c59, c60, c61, c62, c63, c64, .inr (5, [.ref 66, .ref 67, .ref 68, .ref 69, .ref 70, .ref 71, .ref 72, .ref 73, .null, .null, .null, .int 0]), (xI 192), (xI 192), (xI 192), (xZ 192), (xI 192), (xI 192), (xB 12288), (xJ 12288), (xB 12288)]) rfl ?_
  refine wPut 81 i73_78 p73_43 rfl (by decide) rfl rfl rfl ?_
  refine tHeap (h' := [c0, c1, c2, c3, c4, c5, c6, c7, c8, c9, c10, c11, c12, c13, c14, c15, c16, c17, c18, c19, c20, c21, c22, c23, c24, c25, c26, c27, c28, c29, c30, c31, c32, c33, c34, c35, c36, c37, c38, c39, c40, c41, c42, c43, c44, c45, c46, c47, c48, c49, c50, c51, c52, c53, c54, c55, c56, c57, c58, c59, c60, c61, c62, c63, c64, .inr (5, [.ref 66, .ref 67, .ref 68, .ref 69, .ref 70, .ref 71, .ref 72, .ref 73, .ref 74, .null, .null, .int 0]), (xI 192), (xI 192), (xI 192), (xZ 192), (xI 192), (xI 192), (xB 12288), (xJ 12288), (xB 12288)]) rfl ?_
  refine wLan 82 i73_81 rfl rfl ?_
  refine wLin 83 i73_82 rfl rfl ?_
  refine eNewA (n := 75) (N := 192) (c := (xZ 192)) 2 384 1 192 i73_83 (by decide) (by decide) rfl rfl rfl rfl ?_
  refine tHeap (h' := [c0, c1, c2, c3, c4, c5, c6, c7, c8, c9, c10, c11, c12, c13, c14, c15, c16, c17, c18, c19, c20, c21, c22, c23, c24, c25, c26, c27, c28, c29, c30, c31, c32, c33, c34, c35, c36, c37, c38, c39, c40, c41, c42, c43, c44, c45, c46, c47, c48, c49, c50, c51, c52, c53, c54, c55, c56, c57, c58, c59, c60, c61, c62, c63, c64, .inr (5, [.ref 66, .ref 67, .ref 68, .ref 69, .ref 70, .ref 71, .ref 72, .ref 73, .ref 74, .null, .null, .int 0]), (xI 192), (xI 192), (xI 192), (xZ 192), (xI 192), (xI 192), (xB 12288), (xJ 12288), (xB 12288), (xZ 192)]) rfl ?_
  refine wPut 88 i73_85 p73_46 rfl (by decide) rfl rfl rfl ?_
  refine tHeap (h' := [c0, c1, c2, c3, c4, c5, c6, c7, c8, c9, c10, c11, c12, c13, c14, c15, c16, c17, c18, c19, c20, c21, c22, c23, c24, c25, c26, c27, c28, c29, c30, c31, c32, c33, c34, c35, c36, c37, c38, c39, c40, c41, c42, c43, c44, c45, c46, c47, c48, c49, c50, c51, c52, c53, c54, c55, c56, c57, c58, c59, c60, c61, c62, c63, c64, .inr (5, [.ref 66, .ref 67, .ref 68, .ref 69, .ref 70, .ref 71, .ref 72, .ref 73, .ref 74, .ref 75, .null, .int 0]), (xI 192), (xI 192), (xI 192), (xZ 192), (xI 192), (xI 192), (xB 12288), (xJ 12288), (xB 12288), (xZ 192)]) rfl ?_
  refine wLan 89 i73_88 rfl rfl ?_
  refine wLin 90 i73_89 rfl rfl ?_
  refine eNewA (n := 76) (N := 192) (c := (xI 192)) 1 192 0 0 i73_90 (by decide) (by decide) rfl rfl rfl rfl ?_
  refine tHeap (h' := [c0, c1, c2, c3, c4, c5, c6, c7, c8, c9, c10, c11, c12, c13, c14, c15, c16, c17, c18, c19, c20, c21, c22, c23, c24, c25, c26, c27, c28, c29, c30, c31, c32, c33, c34, c35, c36, c37, c38, c39, c40, c41, c42, c43, c44, c45, c46, c47, c48, c49, c50, c51, c52, c53, c54, c55, c56, c57, c58, c59, c60, c61, c62, c63, c64, .inr (5, [.ref 66, .ref 67, .ref 68, .ref 69, .ref 70, .ref 71, .ref 72, .ref 73, .ref 74, .ref 75, .null, .int 0]), (xI 192), (xI 192), (xI 192), (xZ 192), (xI 192), (xI 192), (xB 12288), (xJ 12288), (xB 12288), (xZ 192), (xI 192)]) rfl ?_
  refine wPut 95 i73_92 p73_49 rfl (by decide) rfl rfl rfl ?_
  refine tHeap (h' := [c0, c1, c2, c3, c4, c5, c6, c7, c8, c9, c10, c11, c12, c13, c14, c15, c16, c17, c18, c19, c20, c21, c22, c23, c24, c25, c26, c27, c28, c29, c30, c31, c32, c33, c34, c35, c36, c37, c38, c39, c40, c41, c42, c43, c44, c45, c46, c47, c48, c49, c50, c51, c52, c53, c54, c55, c56, c57, c58, c59, c60, c61, c62, c63, c64, .inr (5, [.ref 66, .ref 67, .ref 68, .ref 69, .ref 70, .ref 71, .ref 72, .ref 73, .ref 74, .ref 75, .ref 76, .int 0]), (xI 192), (xI 192), (xI 192), (xZ 192), (xI 192), (xI 192), (xB 12288), (xJ 12288), (xB 12288), (xZ 192), (xI 192)]) rfl ?_
  refine wK 96 0 i73_95 (by decide) rfl ?_
  refine wSin 97 [(2, .int 0), (0, .ref 65), (1, .int 192)] i73_96 m73 (by decide) rfl rfl ?_
  refine told_fill 65 68 _ rfl (by decide) 192 0 0 _ (fun _ => 0) rfl rfl rfl rfl (fun j hj => absurd hj (Nat.not_lt_zero j)) (fun _ _ => rfl) ?_
  refine tHeap (h' := [c0, c1, c2, c3, c4, c5, c6, c7, c8, c9, c10, c11, c12, c13, c14, c15, c16, c17, c18, c19, c20, c21, c22, c23, c24, c25, c26, c27, c28, c29, c30, c31, c32, c33, c34, c35, c36, c37, c38, c39, c40, c41, c42, c43, c44, c45, c46, c47, c48, c49, c50, c51, c52, c53, c54, c55, c56, c57, c58, c59, c60, c61, c62, c63, c64, .inr (5, [.ref 66, .ref 67, .ref 68, .ref 69, .ref 70, .ref 71, .ref 72, .ref 73, .ref 74, .ref 75, .ref 76, .int 0]), (xI 192), (xI 192), .inl (.int, 192, .inl xOne), (xZ 192), (xI 192), (xI 192), (xB 12288), (xJ 12288), (xB 12288), (xZ 192), (xI 192)]) rfl ?_
  refine wR0 i73_115 m73 ?_
  exact rfl
set_option maxHeartbeats 4000000 in
set_option maxRecDepth 100000 in
theorem k_LateRows {sc : xS} {d : Nat} : xT xg sc (d + 3) 93 0 [(0, .ref 0)] [] [.inr (6, [.null, .null, .null, .null, .null, .null, .null, .null, .null, .null, .int 0, .int 0, .int 0, .int 0])] (fun r => r = (none, [.inr (6, [.ref 1, .ref 15, .ref 17, .ref 26, .ref 38, .ref 50, .ref 51, .ref 55, .ref 56, .ref 65, .int 99, .int 0, .int 99, .int 0]), .inr (1, [.ref 2, .int 0, .ref 11, .ref 12, .ref 13, .ref 14, .int 0, .int (-1)]), .inr (4, [.ref 3, .ref 4, .ref 5, .ref 6, .ref 7, .ref 8, .ref 9, .ref 10]), (xI 1), (xI 24), (xI 24), (xI 24), (xI 24), (xI 24), (xI 24), (xJ 192), (xI 120), (xI 121), (xI 121), (xI 121), .inr (0, [.ref 16, .int 0]), (xI 1024), .inr (4, [.ref 18, .ref 19, .ref 20, .ref 21, .ref 22, .ref 23, .ref 24, .ref 25]), (xI 8), (xI 192), (xI 192), (xI 192), (xI 192), (xI 192), (xI 192), (xJ 1536), .inr (5, [.ref 27, .ref 28, .ref 29, .ref 30, .ref 31, .ref 32, .ref 33, .ref 34, .ref 35, .ref 36, .ref 37, .int 0]), (xI 192), (xI 192), .inl (.int, 192, .inl xOne), (xZ 192), (xI 192), (xI 192), (xB 12288), (xJ 12288), (xB 12288), (xZ 192), (xI 192), .inr (5, [.ref 39, .ref 40, .ref 41, .ref 42, .ref 43, .ref 44, .ref 45, .ref 46, .ref 47, .ref 48, .ref 49, .int 0]), (xI 192), (xI 192), .inl (.int, 192, .inl xOne), (xZ 192), (xI 192), (xI 192), (xB 12288), (xJ 12288), (xB 12288), (xZ 192), (xI 192), .inr (3, [.ref 17, .ref 26, .int 0, .int 0, .long 0]), .inr (2, [.ref 52, .ref 53, .ref 54]), .inl (.int, 4, .inl (upd (upd (upd (upd (fun _ => 0) 0 (-1)) 1 (-1)) 2 (-1)) 3 (-1))), (xI 4), (xJ 160), (xJ 16), .inr (4, [.ref 57, .ref 58, .ref 59, .ref 60, .ref 61, .ref 62, .ref 63, .ref 64]), (xI 8), (xI 192), (xI 192), (xI 192), (xI 192), (xI 192), (xI 192), (xJ 1536), .inr (5, [.ref 66, .ref 67, .ref 68, .ref 69, .ref 70, .ref 71, .ref 72, .ref 73, .ref 74, .ref 75, .ref 76, .int 0]), (xI 192), (xI 192), .inl (.int, 192, .inl xOne), (xZ 192), (xI 192), (xI 192), (xB 12288), (xJ 12288), (xB 12288), (xZ 192), (xI 192)], 76, 122698)) := by
  refine wLan 1 i93_0 rfl rfl ?_
  refine tObj i93_1 l93_1 (by decide) ?_
  refine wLan 5 i93_4 rfl rfl ?_
  refine eNew (n := 1) (N := 8) 76 122698 75 122690 i93_5 n93_7 rfl rfl rfl rfl ?_
  refine tHeap (h' := [.inr (6, [.null, .null, .null, .null, .null, .null, .null, .null, .null, .null, .int 0, .int 0, .int 0, .int 0]), .inr (1, [.null, .int 0, .null, .null, .null, .null, .int 0, .int 0])]) rfl ?_
  refine wD 9 i93_8 rfl rfl rfl ?_
  refine eCallV 12 [.ref 1] [.ref 1, .ref 0] 75 122690 62 121862 i93_9 rfl (xlk5 l93_9) (Or.inr (Or.inr (Or.inr rfl))) m17 rfl rfl (by decide) (by decide) (by decide) rfl rfl (k_Reader_1 _) rfl rfl ?_
  refine wPut 15 i93_12 p93_10 rfl (by decide) rfl rfl rfl ?_
  refine tHeap (h' := [.inr (6, [.ref 1, .null, .null, .null, .null, .null, .null, .null, .null, .null, .int 0, .int 0, .int 0, .int 0]), .inr (1, [.ref 2, .int 0, .ref 11, .ref 12, .ref 13, .ref 14, .int 0, .int (-1)]), .inr (4, [.ref 3, .ref 4, .ref 5, .ref 6, .ref 7, .ref 8, .ref 9, .ref 10]), (xI 1), (xI 24), (xI 24), (xI 24), (xI 24), (xI 24), (xI 24), (xJ 192), (xI 120), (xI 121), (xI 121), (xI 121)]) rfl ?_
  refine wLan 16 i93_15 rfl rfl ?_
  refine eNew (n := 15) (N := 2) 62 121862 61 121860 i93_16 n93_16 rfl rfl rfl rfl ?_
  refine tHeap (h' := [.inr (6, [.ref 1, .null, .null, .null, .null, .null, .null, .null, .null, .null, .int 0, .int 0, .int 0, .int 0]), .inr (1, [.ref 2, .int 0, .ref 11, .ref 12, .ref 13, .ref 14, .int 0, .int (-1)]), .inr (4, [.ref 3, .ref 4, .ref 5, .ref 6, .ref 7, .ref 8, .ref 9, .ref 10]), (xI 1), (xI 24), (xI 24), (xI 24), (xI 24), (xI 24), (xI 24), (xJ 192), (xI 120), (xI 121), (xI 121), (xI 121), .inr (0, [.null, .int 0])]) rfl ?_
  refine wD 20 i93_19 rfl rfl rfl ?_
  refine eCallV 23 [.ref 15] [.ref 15, .ref 0] 61 121860 60 120836 i93_20 rfl (xlk5 l93_18) (Or.inr (Or.inr (Or.inr rfl))) m6 rfl rfl (by decide) (by decide) (by decide) rfl rfl (k_Printer _ _ _ _ _ _ _ _ _ _ _ _ _ _ _) rfl rfl ?_
  refine wPut 26 i93_23 p93_19 rfl (by decide) rfl rfl rfl ?_
  refine tHeap (h' := [.inr (6, [.ref 1, .ref 15, .null, .null, .null, .null, .null, .null, .null, .null, .int 0, .int 0, .int 0, .int 0]), .inr (1, [.ref 2, .int 0, .ref 11, .ref 12, .ref 13, .ref 14, .int 0, .int (-1)]), .inr (4, [.ref 3, .ref 4, .ref 5, .ref 6, .ref 7, .ref 8, .ref 9, .ref 10]), (xI 1), (xI 24), (xI 24), (xI 24), (xI 24), (xI 24), (xI 24), (xJ 192), (xI 120), (xI 121), (xI 121), (xI 121), .inr (0, [.ref 16, .int 0]), (xI 1024)]) rfl ?_
  refine wLan 27 i93_26 rfl rfl ?_
  refine eNew (n := 17) (N := 8) 60 120836 59 120828 i93_27 n93_23 rfl rfl rfl rfl ?_
  refine tHeap (h' := [.inr (6, [.ref 1, .ref 15, .null, .null, .null, .null, .null, .null, .null, .null, .int 0, .int 0, .int 0, .int 0]), .inr (1, [.ref 2, .int 0, .ref 11, .ref 12, .ref 13, .ref 14, .int 0, .int (-1)]), .inr (4, [.ref 3, .ref 4, .ref 5, .ref 6, .ref 7, .ref 8, .ref 9, .ref 10]), (xI 1), (xI 24), (xI 24), (xI 24), (xI 24), (xI 24), (xI 24), (xJ 192), (xI 120), (xI 121), (xI 121), (xI 121), .inr (0, [.ref 16, .int 0]), (xI 1024), .inr (4, [.null, .null, .null, .null, .null, .null, .null, .null])]) rfl ?_
  refine wD 31 i93_30 rfl rfl rfl ?_
  refine wKb 33 8 i93_31 (by decide) rfl ?_
  refine eCallV 36 [.ref 17, .int 8] [.ref 17, .ref 0] 59 120828 51 118132 i93_33 rfl (xlk4 l93_25) (Or.inr (Or.inr (Or.inl rfl))) m66 rfl rfl (by decide) (by decide) (by decide) rfl rfl (k_Texts_a _ _ _ _ _ _ _ _ _ _ _ _ _ _ _ _ _) rfl rfl ?_
  refine wPut 39 i93_36 p93_28 rfl (by decide) rfl rfl rfl ?_
  refine tHeap (h' := [.inr (6, [.ref 1, .ref 15, .ref 17, .null, .null, .null, .null, .null, .null, .null, .int 0, .int 0, .int 0, .int 0]), .inr (1, [.ref 2, .int 0, .ref 11, .ref 12, .ref 13, .ref 14, .int 0, .int (-1)]), .inr (4, [.ref 3, .ref 4, .ref 5, .ref 6, .ref 7, .ref 8, .ref 9, .ref 10]), (xI 1), (xI 24), (xI 24), (xI 24), (xI 24), (xI 24), (xI 24), (xJ 192), (xI 120), (xI 121), (xI 121), (xI 121), .inr (0, [.ref 16, .int 0]), (xI 1024), .inr (4, [.ref 18, .ref 19, .ref 20, .ref 21, .ref 22, .ref 23, .ref 24, .ref 25]), (xI 8), (xI 192), (xI 192), (xI 192), (xI 192), (xI 192), (xI 192), (xJ 1536)]) rfl ?_
  refine wLan 40 i93_39 rfl rfl ?_
  refine eNew (n := 26) (N := 12) 51 118132 50 118120 i93_40 n93_32 rfl rfl rfl rfl ?_
  refine tHeap (h' := [.inr (6, [.ref 1, .ref 15, .ref 17, .null, .null, .null, .null, .null, .null, .null, .int 0, .int 0, .int 0, .int 0]), .inr (1, [.ref 2, .int 0, .ref 11, .ref 12, .ref 13, .ref 14, .int 0, .int (-1)]), .inr (4, [.ref 3, .ref 4, .ref 5, .ref 6, .ref 7, .ref 8, .ref 9, .ref 10]), (xI 1), (xI 24), (xI 24), (xI 24), (xI 24), (xI 24), (xI 24), (xJ 192), (xI 120), (xI 121), (xI 121), (xI 121), .inr (0, [.ref 16, .int 0]), (xI 1024), .inr (4, [.ref 18, .ref 19, .ref 20, .ref 21, .ref 22, .ref 23, .ref 24, .ref 25]), (xI 8), (xI 192), (xI 192), (xI 192), (xI 192), (xI 192), (xI 192), (xJ 1536), .inr (5, [.null, .null, .null, .null, .null, .null, .null, .null, .null, .null, .null, .int 0])]) rfl ?_
  refine wD 44 i93_43 rfl rfl rfl ?_
  refine wKs 47 192 i93_44 (by decide) rfl ?_
  refine eCallV 50 [.ref 26, .int 192] [.ref 26, .ref 0] 50 118120 39 79720 i93_47 rfl (xlk4 l93_34) (Or.inr (Or.inr (Or.inl rfl))) m73 rfl rfl (by decide) (by decide) (by decide) rfl rfl (k_Told_a _ _ _ _ _ _ _ _ _ _ _ _ _ _ _ _ _ _ _ _ _ _ _ _ _ _) rfl rfl ?_
  refine wPut 53 i93_50 p93_35 rfl (by decide) rfl rfl rfl ?_
  refine tHeap (h' := [.inr (6, [.ref 1, .ref 15, .ref 17, .ref 26, .null, .null, .null, .null, .null, .null, .int 0, .int 0, .int 0, .int 0]), .inr (1, [.ref 2, .int 0, .ref 11, .ref 12, .ref 13, .ref 14, .int 0, .int (-1)]), .inr (4, [.ref 3, .ref 4, .ref 5, .ref 6, .ref 7, .ref 8, .ref 9, .ref 10]), (xI 1), (xI 24), (xI 24), (xI 24), (xI 24), (xI 24), (xI 24), (xJ 192), (xI 120), (xI 121), (xI 121), (xI 121), .inr (0, [.ref 16, .int 0]), (xI 1024), .inr (4, [.ref 18, .ref 19, .ref 20, .ref 21, .ref 22, .ref 23, .ref 24, .ref 25]), (xI 8), (xI 192), (xI 192), (xI 192), (xI 192), (xI 192), (xI 192), (xJ 1536), .inr (5, [.ref 27, .ref 28, .ref 29, .ref 30, .ref 31, .ref 32, .ref 33, .ref 34, .ref 35, .ref 36, .ref 37, .int 0]), (xI 192), (xI 192), .inl (.int, 192, .inl xOne), (xZ 192), (xI 192), (xI 192), (xB 12288), (xJ 12288), (xB 12288), (xZ 192), (xI 192)]) rfl ?_
  refine wLan 54 i93_53 rfl rfl ?_
  refine eNew (n := 38) (N := 12) 39 79720 38 79708 i93_54 n93_32 rfl rfl rfl rfl ?_
  refine tHeap (h' := [.inr (6, [.ref 1, .ref 15, .ref 17, .ref 26, .null, .null, .null, .null, .null, .null, .int 0, .int 0, .int 0, .int 0]), .inr (1, [.ref 2, .int 0, .ref 11, .ref 12, .ref 13, .ref 14, .int 0, .int (-1)]), .inr (4, [.ref 3, .ref 4, .ref 5, .ref 6, .ref 7, .ref 8, .ref 9, .ref 10]), (xI 1), (xI 24), (xI 24), (xI 24), (xI 24), (xI 24), (xI 24), (xJ 192), (xI 120), (xI 121), (xI 121), (xI 121), .inr (0, [.ref 16, .int 0]), (xI 1024), .inr (4, [.ref 18, .ref 19, .ref 20, .ref 21, .ref 22, .ref 23, .ref 24, .ref 25]), (xI 8), (xI 192), (xI 192), (xI 192), (xI 192), (xI 192), (xI 192), (xJ 1536), .inr (5, [.ref 27, .ref 28, .ref 29, .ref 30, .ref 31, .ref 32, .ref 33, .ref 34, .ref 35, .ref 36, .ref 37, .int 0]), (xI 192), (xI 192), .inl (.int, 192, .inl xOne), (xZ 192), (xI 192), (xI 192), (xB 12288), (xJ 12288), (xB 12288), (xZ 192), (xI 192), .inr (5, [.null, .null, .null, .null, .null, .null, .null, .null, .null, .null, .null, .int 0])]) rfl ?_
  refine wD 58 i93_57 rfl rfl rfl ?_
  refine wKs 61 192 i93_58 (by decide) rfl ?_
  refine eCallV 64 [.ref 38, .int 192] [.ref 38, .ref 0] 38 79708 27 41308 i93_61 rfl (xlk4 l93_34) (Or.inr (Or.inr (Or.inl rfl))) m73 rfl rfl (by decide) (by decide) (by decide) rfl rfl (k_Told_b _ _ _ _ _ _ _ _ _ _ _ _ _ _ _ _ _ _ _ _ _ _ _ _ _ _ _ _ _ _ _ _ _ _ _ _ _ _) rfl rfl ?_
  refine wPut 67 i93_64 p93_39 rfl (by decide) rfl rfl rfl ?_
  refine tHeap (h' := [.inr (6, [.ref 1, .ref 15, .ref 17, .ref 26, .ref 38, .null, .null, .null, .null, .null, .int 0, .int 0, .int 0, .int 0]), .inr (1, [.ref 2, .int 0, .ref 11, .ref 12, .ref 13, .ref 14, .int 0, .int (-1)]), .inr (4, [.ref 3, .ref 4, .ref 5, .ref 6, .ref 7, .ref 8, .ref 9, .ref 10]), (xI 1), (xI 24), (xI 24), (xI 24), (xI 24), (xI 24), (xI 24), (xJ 192), (xI 120), (xI 121), (xI 121), (xI 121), .inr (0, [.ref 16, .int 0]), (xI 1024), .inr (4, [.ref 18, .ref 19, .ref 20, .ref 21, .ref 22, .ref 23, .ref 24, .ref 25]), (xI 8), (xI 192), (xI 192), (xI 192), (xI 192), (xI 192), (xI 192), (xJ 1536), .inr (5, [.ref 27, .ref 28, .ref 29, .ref 30, .ref 31, .ref 32, .ref 33, .ref 34, .ref 35, .ref 36, .ref 37, .int 0]), (xI 192), (xI 192), .inl (.int, 192, .inl xOne), (xZ 192), (xI 192), (xI 192), (xB 12288), (xJ 12288), (xB 12288), (xZ 192), (xI 192), .inr (5, [.ref 39, .ref 40, .ref 41, .ref 42, .ref 43, .ref 44, .ref 45, .ref 46, .ref 47, .ref 48, .ref 49, .int 0]), (xI 192), (xI 192), .inl (.int, 192, .inl xOne), (xZ 192), (xI 192), (xI 192), (xB 12288), (xJ 12288), (xB 12288), (xZ 192), (xI 192)]) rfl ?_
  refine wLan 68 i93_67 rfl rfl ?_
  refine eNew (n := 50) (N := 5) 27 41308 26 41303 i93_68 n93_42 rfl rfl rfl rfl ?_
  refine tHeap (h' := [.inr (6, [.ref 1, .ref 15, .ref 17, .ref 26, .ref 38, .null, .null, .null, .null, .null, .int 0, .int 0, .int 0, .int 0]), .inr (1, [.ref 2, .int 0, .ref 11, .ref 12, .ref 13, .ref 14, .int 0, .int (-1)]), .inr (4, [.ref 3, .ref 4, .ref 5, .ref 6, .ref 7, .ref 8, .ref 9, .ref 10]), (xI 1), (xI 24), (xI 24), (xI 24), (xI 24), (xI 24), (xI 24), (xJ 192), (xI 120), (xI 121), (xI 121), (xI 121), .inr (0, [.ref 16, .int 0]), (xI 1024), .inr (4, [.ref 18, .ref 19, .ref 20, .ref 21, .ref 22, .ref 23, .ref 24, .ref 25]), (xI 8), (xI 192), (xI 192), (xI 192), (xI 192), (xI 192), (xI 192), (xJ 1536), .inr (5, [.ref 27, .ref 28, .ref 29, .ref 30, .ref 31, .ref 32, .ref 33, .ref 34, .ref 35, .ref 36, .ref 37, .int 0]), (xI 192), (xI 192), .inl (.int, 192, .inl xOne), (xZ 192), (xI 192), (xI 192), (xB 12288), (xJ 12288), (xB 12288), (xZ 192), (xI 192), .inr (5, [.ref 39, .ref 40, .ref 41, .ref 42, .ref 43, .ref 44, .ref 45, .ref 46, .ref 47, .ref 48, .ref 49, .int 0]), (xI 192), (xI 192), .inl (.int, 192, .inl xOne), (xZ 192), (xI 192), (xI 192), (xB 12288), (xJ 12288), (xB 12288), (xZ 192), (xI 192), .inr (3, [.null, .null, .int 0, .int 0, .long 0])]) rfl ?_
  refine wD 72 i93_71 rfl rfl rfl ?_
  refine wLan 73 i93_72 rfl rfl ?_
  refine wGet 76 (.ref 17) i93_73 f93_28 rfl rfl rfl ?_
  refine wLan 77 i93_76 rfl rfl ?_
  refine wGet 80 (.ref 26) i93_77 f93_35 rfl rfl rfl ?_
  refine eCallV 83 [.ref 50, .ref 17, .ref 26] [.ref 50, .ref 0] 26 41303 26 41303 i93_80 rfl (xlk4 l93_44) (Or.inr (Or.inr (Or.inl rfl))) m48 rfl rfl (by decide) (by decide) (by decide) rfl rfl (k_Teller _ _ _ _ _ _ _ _ _ _ _ _ _ _ _ _ _ _ _ _ _ _ _ _ _ _ _ _ _ _ _ _ _ _ _ _ _ _ _ _ _ _ _ _ _ _ _ _ _ _) rfl rfl ?_
  refine wPut 86 i93_83 p93_47 rfl (by decide) rfl rfl rfl ?_
  refine tHeap (h' := [.inr (6, [.ref 1, .ref 15, .ref 17, .ref 26, .ref 38, .ref 50, .null, .null, .null, .null, .int 0, .int 0, .int 0, .int 0]), .inr (1, [.ref 2, .int 0, .ref 11, .ref 12, .ref 13, .ref 14, .int 0, .int (-1)]), .inr (4, [.ref 3, .ref 4, .ref 5, .ref 6, .ref 7, .ref 8, .ref 9, .ref 10]), (xI 1), (xI 24), (xI 24), (xI 24), (xI 24), (xI 24), (xI 24), (xJ 192), (xI 120), (xI 121), (xI 121), (xI 121), .inr (0, [.ref 16, .int 0]), (xI 1024), .inr (4, [.ref 18, .ref 19, .ref 20, .ref 21, .ref 22, .ref 23, .ref 24, .ref 25]), (xI 8), (xI 192), (xI 192), (xI 192), (xI 192), (xI 192), (xI 192), (xJ 1536), .inr (5, [.ref 27, .ref 28, .ref 29, .ref 30, .ref 31, .ref 32, .ref 33, .ref 34, .ref 35, .ref 36, .ref 37, .int 0]), (xI 192), (xI 192), .inl (.int, 192, .inl xOne), (xZ 192), (xI 192), (xI 192), (xB 12288), (xJ 12288), (xB 12288), (xZ 192), (xI 192), .inr (5, [.ref 39, .ref 40, .ref 41, .ref 42, .ref 43, .ref 44, .ref 45, .ref 46, .ref 47, .ref 48, .ref 49, .int 0]), (xI 192), (xI 192), .inl (.int, 192, .inl xOne), (xZ 192), (xI 192), (xI 192), (xB 12288), (xJ 12288), (xB 12288), (xZ 192), (xI 192), .inr (3, [.ref 17, .ref 26, .int 0, .int 0, .long 0])]) rfl ?_
  refine wLan 87 i93_86 rfl rfl ?_
  refine eNew (n := 51) (N := 3) 26 41303 25 41300 i93_87 n93_51 rfl rfl rfl rfl ?_
  refine tHeap (h' := [.inr (6, [.ref 1, .ref 15, .ref 17, .ref 26, .ref 38, .ref 50, .null, .null, .null, .null, .int 0, .int 0, .int 0, .int 0]), .inr (1, [.ref 2, .int 0, .ref 11, .ref 12, .ref 13, .ref 14, .int 0, .int (-1)]), .inr (4, [.ref 3, .ref 4, .ref 5, .ref 6, .ref 7, .ref 8, .ref 9, .ref 10]), (xI 1), (xI 24), (xI 24), (xI 24), (xI 24), (xI 24), (xI 24), (xJ 192), (xI 120), (xI 121), (xI 121), (xI 121), .inr (0, [.ref 16, .int 0]), (xI 1024), .inr (4, [.ref 18, .ref 19, .ref 20, .ref 21, .ref 22, .ref 23, .ref 24, .ref 25]), (xI 8), (xI 192), (xI 192), (xI 192), (xI 192), (xI 192), (xI 192), (xJ 1536), .inr (5, [.ref 27, .ref 28, .ref 29, .ref 30, .ref 31, .ref 32, .ref 33, .ref 34, .ref 35, .ref 36, .ref 37, .int 0]), (xI 192), (xI 192), .inl (.int, 192, .inl xOne), (xZ 192), (xI 192), (xI 192), (xB 12288), (xJ 12288), (xB 12288), (xZ 192), (xI 192), .inr (5, [.ref 39, .ref 40, .ref 41, .ref 42, .ref 43, .ref 44, .ref 45, .ref 46, .ref 47, .ref 48, .ref 49, .int 0]), (xI 192), (xI 192), .inl (.int, 192, .inl xOne), (xZ 192), (xI 192), (xI 192), (xB 12288), (xJ 12288), (xB 12288), (xZ 192), (xI 192), .inr (3, [.ref 17, .ref 26, .int 0, .int 0, .long 0]), .inr (2, [.null, .null, .null])]) rfl ?_
  refine wD 91 i93_90 rfl rfl rfl ?_
  refine eCallV 94 [.ref 51] [.ref 51, .ref 0] 25 41300 22 41132 i93_91 rfl (xlk4 l93_53) (Or.inr (Or.inr (Or.inl rfl))) m32 rfl rfl (by decide) (by decide) (by decide) rfl rfl (k_Sheets _ _ _ _ _ _ _ _ _ _ _ _ _ _ _ _ _ _ _ _ _ _ _ _ _ _ _ _ _ _ _ _ _ _ _ _ _ _ _ _ _ _ _ _ _ _ _ _ _ _ _) rfl rfl ?_
  refine wPut 97 i93_94 p93_54 rfl (by decide) rfl rfl rfl ?_
  refine tHeap (h' := [.inr (6, [.ref 1, .ref 15, .ref 17, .ref 26, .ref 38, .ref 50, .ref 51, .null, .null, .null, .int 0, .int 0, .int 0, .int 0]), .inr (1, [.ref 2, .int 0, .ref 11, .ref 12, .ref 13, .ref 14, .int 0, .int (-1)]), .inr (4, [.ref 3, .ref 4, .ref 5, .ref 6, .ref 7, .ref 8, .ref 9, .ref 10]), (xI 1), (xI 24), (xI 24), (xI 24), (xI 24), (xI 24), (xI 24), (xJ 192), (xI 120), (xI 121), (xI 121), (xI 121), .inr (0, [.ref 16, .int 0]), (xI 1024), .inr (4, [.ref 18, .ref 19, .ref 20, .ref 21, .ref 22, .ref 23, .ref 24, .ref 25]), (xI 8), (xI 192), (xI 192), (xI 192), (xI 192), (xI 192), (xI 192), (xJ 1536), .inr (5, [.ref 27, .ref 28, .ref 29, .ref 30, .ref 31, .ref 32, .ref 33, .ref 34, .ref 35, .ref 36, .ref 37, .int 0]), (xI 192), (xI 192), .inl (.int, 192, .inl xOne), (xZ 192), (xI 192), (xI 192), (xB 12288), (xJ 12288), (xB 12288), (xZ 192), (xI 192), .inr (5, [.ref 39, .ref 40, .ref 41, .ref 42, .ref 43, .ref 44, .ref 45, .ref 46, .ref 47, .ref 48, .ref 49, .int 0]), (xI 192), (xI 192), .inl (.int, 192, .inl xOne), (xZ 192), (xI 192), (xI 192), (xB 12288), (xJ 12288), (xB 12288), (xZ 192), (xI 192), .inr (3, [.ref 17, .ref 26, .int 0, .int 0, .long 0]), .inr (2, [.ref 52, .ref 53, .ref 54]), .inl (.int, 4, .inl (upd (upd (upd (upd (fun _ => 0) 0 (-1)) 1 (-1)) 2 (-1)) 3 (-1))), (xI 4), (xJ 160)]) rfl ?_
  refine wLan 98 i93_97 rfl rfl ?_
  refine wKb 100 16 i93_98 (by decide) rfl ?_
  refine eNewA (n := 55) (N := 16) (c := (xJ 16)) 22 41132 21 41116 i93_100 (by decide) (by decide) rfl rfl rfl rfl ?_
  refine tHeap (h' := [.inr (6, [.ref 1, .ref 15, .ref 17, .ref 26, .ref 38, .ref 50, .ref 51, .null, .null, .null, .int 0, .int 0, .int 0, .int 0]), .inr (1, [.ref 2, .int 0, .ref 11, .ref 12, .ref 13, .ref 14, .int 0, .int (-1)]), .inr (4, [.ref 3, .ref 4, .ref 5, .ref 6, .ref 7, .ref 8, .ref 9, .ref 10]), (xI 1), (xI 24), (xI 24), (xI 24), (xI 24), (xI 24), (xI 24), (xJ 192), (xI 120), (xI 121), (xI 121), (xI 121), .inr (0, [.ref 16, .int 0]), (xI 1024), .inr (4, [.ref 18, .ref 19, .ref 20, .ref 21, .ref 22, .ref 23, .ref 24, .ref 25]), (xI 8), (xI 192), (xI 192), (xI 192), (xI 192), (xI 192), (xI 192), (xJ 1536), .inr (5, [.ref 27, .ref 28, .ref 29, .ref 30, .ref 31, .ref 32, .ref 33, .ref 34, .ref 35, .ref 36, .ref 37, .int 0]), (xI 192), (xI 192), .inl (.int, 192, .inl xOne), (xZ 192), (xI 192), (xI 192), (xB 12288), (xJ 12288), (xB 12288), (xZ 192), (xI 192), .inr (5, [.ref 39, .ref 40, .ref 41, .ref 42, .ref 43, .ref 44, .ref 45, .ref 46, .ref 47, .ref 48, .ref 49, .int 0]), (xI 192), (xI 192), .inl (.int, 192, .inl xOne), (xZ 192), (xI 192), (xI 192), (xB 12288), (xJ 12288), (xB 12288), (xZ 192), (xI 192), .inr (3, [.ref 17, .ref 26, .int 0, .int 0, .long 0]), .inr (2, [.ref 52, .ref 53, .ref 54]), .inl (.int, 4, .inl (upd (upd (upd (upd (fun _ => 0) 0 (-1)) 1 (-1)) 2 (-1)) 3 (-1))), (xI 4), (xJ 160), (xJ 16)]) rfl ?_
  refine wPut 105 i93_102 p93_58 rfl (by decide) rfl rfl rfl ?_
  refine tHeap (h' := [.inr (6, [.ref 1, .ref 15, .ref 17, .ref 26, .ref 38, .ref 50, .ref 51, .ref 55, .null, .null, .int 0, .int 0, .int 0, .int 0]), .inr (1, [.ref 2, .int 0, .ref 11, .ref 12, .ref 13, .ref 14, .int 0, .int (-1)]), .inr (4, [.ref 3, .ref 4, .ref 5, .ref 6, .ref 7, .ref 8, .ref 9, .ref 10]), (xI 1), (xI 24), (xI 24), (xI 24), (xI 24), (xI 24), (xI 24), (xJ 192), (xI 120), (xI 121), (xI 121), (xI 121), .inr (0, [.ref 16, .int 0]), (xI 1024), .inr (4, [.ref 18, .ref 19, .ref 20, .ref 21, .ref 22, .ref 23, .ref 24, .ref 25]), (xI 8), (xI 192), (xI 192), (xI 192), (xI 192), (xI 192), (xI 192), (xJ 1536), .inr (5, [.ref 27, .ref 28, .ref 29, .ref 30, .ref 31, .ref 32, .ref 33, .ref 34, .ref 35, .ref 36, .ref 37, .int 0]), (xI 192), (xI 192), .inl (.int, 192, .inl xOne), (xZ 192), (xI 192), (xI 192), (xB 12288), (xJ 12288), (xB 12288), (xZ 192), (xI 192), .inr (5, [.ref 39, .ref 40, .ref 41, .ref 42, .ref 43, .ref 44, .ref 45, .ref 46, .ref 47, .ref 48, .ref 49, .int 0]), (xI 192), (xI 192), .inl (.int, 192, .inl xOne), (xZ 192), (xI 192), (xI 192), (xB 12288), (xJ 12288), (xB 12288), (xZ 192), (xI 192), .inr (3, [.ref 17, .ref 26, .int 0, .int 0, .long 0]), .inr (2, [.ref 52, .ref 53, .ref 54]), .inl (.int, 4, .inl (upd (upd (upd (upd (fun _ => 0) 0 (-1)) 1 (-1)) 2 (-1)) 3 (-1))), (xI 4), (xJ 160), (xJ 16)]) rfl ?_
  refine wLan 106 i93_105 rfl rfl ?_
  refine eNew (n := 56) (N := 8) 21 41116 20 41108 i93_106 n93_23 rfl rfl rfl rfl ?_
  refine tHeap (h' := [.inr (6, [.ref 1, .ref 15, .ref 17, .ref 26, .ref 38, .ref 50, .ref 51, .ref 55, .null, .null, .int 0, .int 0, .int 0, .int 0]), .inr (1, [.ref 2, .int 0, .ref 11, .ref 12, .ref 13, .ref 14, .int 0, .int (-1)]), .inr (4, [.ref 3, .ref 4, .ref 5, .ref 6, .ref 7, .ref 8, .ref 9, .ref 10]), (xI 1), (xI 24), (xI 24), (xI 24), (xI 24), (xI 24), (xI 24), (xJ 192), (xI 120), (xI 121), (xI 121), (xI 121), .inr (0, [.ref 16, .int 0]), (xI 1024), .inr (4, [.ref 18, .ref 19, .ref 20, .ref 21, .ref 22, .ref 23, .ref 24, .ref 25]), (xI 8), (xI 192), (xI 192), (xI 192), (xI 192), (xI 192), (xI 192), (xJ 1536), .inr (5, [.ref 27, .ref 28, .ref 29, .ref 30, .ref 31, .ref 32, .ref 33, .ref 34, .ref 35, .ref 36, .ref 37, .int 0]), (xI 192), (xI 192), .inl (.int, 192, .inl xOne), (xZ 192), (xI 192), (xI 192), (xB 12288), (xJ 12288), (xB 12288), (xZ 192), (xI 192), .inr (5, [.ref 39, .ref 40, .ref 41, .ref 42, .ref 43, .ref 44, .ref 45, .ref 46, .ref 47, .ref 48, .ref 49, .int 0]), (xI 192), (xI 192), .inl (.int, 192, .inl xOne), (xZ 192), (xI 192), (xI 192), (xB 12288), (xJ 12288), (xB 12288), (xZ 192), (xI 192), .inr (3, [.ref 17, .ref 26, .int 0, .int 0, .long 0]), .inr (2, [.ref 52, .ref 53, .ref 54]), .inl (.int, 4, .inl (upd (upd (upd (upd (fun _ => 0) 0 (-1)) 1 (-1)) 2 (-1)) 3 (-1))), (xI 4), (xJ 160), (xJ 16), .inr (4, [.null, .null, .null, .null, .null, .null, .null, .null])]) rfl ?_
  refine wD 110 i93_109 rfl rfl rfl ?_
  refine wKb 112 8 i93_110 (by decide) rfl ?_
  refine eCallV 115 [.ref 56, .int 8] [.ref 56, .ref 0] 20 41108 12 38412 i93_112 rfl (xlk4 l93_25) (Or.inr (Or.inr (Or.inl rfl))) m66 rfl rfl (by decide) (by decide) (by decide) rfl rfl (k_Texts_b _ _ _ _ _ _ _ _ _ _ _ _ _ _ _ _ _ _ _ _ _ _ _ _ _ _ _ _ _ _ _ _ _ _ _ _ _ _ _ _ _ _ _ _ _ _ _ _ _ _ _ _ _ _ _ _) rfl rfl ?_
  refine wPut 118 i93_115 p93_62 rfl (by decide) rfl rfl rfl ?_
  refine tHeap (h' := [.inr (6, [.ref 1, .ref 15, .ref 17, .ref 26, .ref 38, .ref 50, .ref 51, .ref 55, .ref 56, .null, .int 0, .int 0, .int 0, .int 0]), .inr (1, [.ref 2, .int 0, .ref 11, .ref 12, .ref 13, .ref 14, .int 0, .int (-1)]), .inr (4, [.ref 3, .ref 4, .ref 5, .ref 6, .ref 7, .ref 8, .ref 9, .ref 10]), (xI 1), (xI 24), (xI 24), (xI 24), (xI 24), (xI 24), (xI 24), (xJ 192), (xI 120), (xI 121), (xI 121), (xI 121), .inr (0, [.ref 16, .int 0]), (xI 1024), .inr (4, [.ref 18, .ref 19, .ref 20, .ref 21, .ref 22, .ref 23, .ref 24, .ref 25]), (xI 8), (xI 192), (xI 192), (xI 192), (xI 192), (xI 192), (xI 192), (xJ 1536), .inr (5, [.ref 27, .ref 28, .ref 29, .ref 30, .ref 31, .ref 32, .ref 33, .ref 34, .ref 35, .ref 36, .ref 37, .int 0]), (xI 192), (xI 192), .inl (.int, 192, .inl xOne), (xZ 192), (xI 192), (xI 192), (xB 12288), (xJ 12288), (xB 12288), (xZ 192), (xI 192), .inr (5, [.ref 39, .ref 40, .ref 41, .ref 42, .ref 43, .ref 44, .ref 45, .ref 46, .ref 47, .ref 48, .ref 49, .int 0]), (xI 192), (xI 192), .inl (.int, 192, .inl xOne), (xZ 192), (xI 192), (xI 192), (xB 12288), (xJ 12288), (xB 12288), (xZ 192), (xI 192), .inr (3, [.ref 17, .ref 26, .int 0, .int 0, .long 0]), .inr (2, [.ref 52, .ref 53, .ref 54]), .inl (.int, 4, .inl (upd (upd (upd (upd (fun _ => 0) 0 (-1)) 1 (-1)) 2 (-1)) 3 (-1))), (xI 4), (xJ 160), (xJ 16), .inr (4, [.ref 57, .ref 58, .ref 59, .ref 60, .ref 61, .ref 62, .ref 63, .ref 64]), (xI 8), (xI 192), (xI 192), (xI 192), (xI 192), (xI 192), (xI 192), (xJ 1536)]) rfl ?_
  refine wLan 119 i93_118 rfl rfl ?_
  refine eNew (n := 65) (N := 12) 12 38412 11 38400 i93_119 n93_32 rfl rfl rfl rfl ?_
  refine tHeap (h' := [.inr (6, [.ref 1, .ref 15, .ref 17, .ref 26, .ref 38, .ref 50, .ref 51, .ref 55, .ref 56, .null, .int 0, .int 0, .int 0, .int 0]), .inr (1, [.ref 2, .int 0, .ref 11, .ref 12, .ref 13, .ref 14, .int 0, .int (-1)]), .inr (4, [.ref 3, .ref 4, .ref 5, .ref 6, .ref 7, .ref 8, .ref 9, .ref 10]), (xI 1), (xI 24), (xI 24), (xI 24), (xI 24), (xI 24), (xI 24), (xJ 192), (xI 120), (xI 121), (xI 121), (xI 121), .inr (0, [.ref 16, .int 0]), (xI 1024), .inr (4, [.ref 18, .ref 19, .ref 20, .ref 21, .ref 22, .ref 23, .ref 24, .ref 25]), (xI 8), (xI 192), (xI 192), (xI 192), (xI 192), (xI 192), (xI 192), (xJ 1536), .inr (5, [.ref 27, .ref 28, .ref 29, .ref 30, .ref 31, .ref 32, .ref 33, .ref 34, .ref 35, .ref 36, .ref 37, .int 0]), (xI 192), (xI 192), .inl (.int, 192, .inl xOne), (xZ 192), (xI 192), (xI 192), (xB 12288), (xJ 12288), (xB 12288), (xZ 192), (xI 192), .inr (5, [.ref 39, .ref 40, .ref 41, .ref 42, .ref 43, .ref 44, .ref 45, .ref 46, .ref 47, .ref 48, .ref 49, .int 0]), (xI 192), (xI 192), .inl (.int, 192, .inl xOne), (xZ 192), (xI 192), (xI 192), (xB 12288), (xJ 12288), (xB 12288), (xZ 192), (xI 192), .inr (3, [.ref 17, .ref 26, .int 0, .int 0, .long 0]), .inr (2, [.ref 52, .ref 53, .ref 54]), .inl (.int, 4, .inl (upd (upd (upd (upd (fun _ => 0) 0 (-1)) 1 (-1)) 2 (-1)) 3 (-1))), (xI 4), (xJ 160), (xJ 16), .inr (4, [.ref 57, .ref 58, .ref 59, .ref 60, .ref 61, .ref 62, .ref 63, .ref 64]), (xI 8), (xI 192), (xI 192), (xI 192), (xI 192), (xI 192), (xI 192), (xJ 1536), .inr (5, [.null, .null, .null, .null, .null, .null, .null, .null, .null, .null, .null, .int 0])]) rfl ?_
  refine wD 123 i93_122 rfl rfl rfl ?_
  refine wKs 126 192 i93_123 (by decide) rfl ?_
  refine eCallV 129 [.ref 65, .int 192] [.ref 65, .ref 0] 11 38400 0 0 i93_126 rfl (xlk4 l93_34) (Or.inr (Or.inr (Or.inl rfl))) m73 rfl rfl (by decide) (by decide) (by decide) rfl rfl (k_Told_c _ _ _ _ _ _ _ _ _ _ _ _ _ _ _ _ _ _ _ _ _ _ _ _ _ _ _ _ _ _ _ _ _ _ _ _ _ _ _ _ _ _ _ _ _ _ _ _ _ _ _ _ _ _ _ _ _ _ _ _ _ _ _ _ _) rfl rfl ?_
  refine wPut 132 i93_129 p93_65 rfl (by decide) rfl rfl rfl ?_
  refine tHeap (h' := [.inr (6, [.ref 1, .ref 15, .ref 17, .ref 26, .ref 38, .ref 50, .ref 51, .ref 55, .ref 56, .ref 65, .int 0, .int 0, .int 0, .int 0]), .inr (1, [.ref 2, .int 0, .ref 11, .ref 12, .ref 13, .ref 14, .int 0, .int (-1)]), .inr (4, [.ref 3, .ref 4, .ref 5, .ref 6, .ref 7, .ref 8, .ref 9, .ref 10]), (xI 1), (xI 24), (xI 24), (xI 24), (xI 24), (xI 24), (xI 24), (xJ 192), (xI 120), (xI 121), (xI 121), (xI 121), .inr (0, [.ref 16, .int 0]), (xI 1024), .inr (4, [.ref 18, .ref 19, .ref 20, .ref 21, .ref 22, .ref 23, .ref 24, .ref 25]), (xI 8), (xI 192), (xI 192), (xI 192), (xI 192), (xI 192), (xI 192), (xJ 1536), .inr (5, [.ref 27, .ref 28, .ref 29, .ref 30, .ref 31, .ref 32, .ref 33, .ref 34, .ref 35, .ref 36, .ref 37, .int 0]), (xI 192), (xI 192), .inl (.int, 192, .inl xOne), (xZ 192), (xI 192), (xI 192), (xB 12288), (xJ 12288), (xB 12288), (xZ 192), (xI 192), .inr (5, [.ref 39, .ref 40, .ref 41, .ref 42, .ref 43, .ref 44, .ref 45, .ref 46, .ref 47, .ref 48, .ref 49, .int 0]), (xI 192), (xI 192), .inl (.int, 192, .inl xOne), (xZ 192), (xI 192), (xI 192), (xB 12288), (xJ 12288), (xB 12288), (xZ 192), (xI 192), .inr (3, [.ref 17, .ref 26, .int 0, .int 0, .long 0]), .inr (2, [.ref 52, .ref 53, .ref 54]), .inl (.int, 4, .inl (upd (upd (upd (upd (fun _ => 0) 0 (-1)) 1 (-1)) 2 (-1)) 3 (-1))), (xI 4), (xJ 160), (xJ 16), .inr (4, [.ref 57, .ref 58, .ref 59, .ref 60, .ref 61, .ref 62, .ref 63, .ref 64]), (xI 8), (xI 192), (xI 192), (xI 192), (xI 192), (xI 192), (xI 192), (xJ 1536), .inr (5, [.ref 66, .ref 67, .ref 68, .ref 69, .ref 70, .ref 71, .ref 72, .ref 73, .ref 74, .ref 75, .ref 76, .int 0]), (xI 192), (xI 192), .inl (.int, 192, .inl xOne), (xZ 192), (xI 192), (xI 192), (xB 12288), (xJ 12288), (xB 12288), (xZ 192), (xI 192)]) rfl ?_
  refine wLan 133 i93_132 rfl rfl ?_
  refine wKb 135 99 i93_133 (by decide) rfl ?_
  refine wPut 138 i93_135 p93_68 rfl (by decide) rfl rfl rfl ?_
  refine tHeap (h' := [.inr (6, [.ref 1, .ref 15, .ref 17, .ref 26, .ref 38, .ref 50, .ref 51, .ref 55, .ref 56, .ref 65, .int 99, .int 0, .int 0, .int 0]), .inr (1, [.ref 2, .int 0, .ref 11, .ref 12, .ref 13, .ref 14, .int 0, .int (-1)]), .inr (4, [.ref 3, .ref 4, .ref 5, .ref 6, .ref 7, .ref 8, .ref 9, .ref 10]), (xI 1), (xI 24), (xI 24), (xI 24), (xI 24), (xI 24), (xI 24), (xJ 192), (xI 120), (xI 121), (xI 121), (xI 121), .inr (0, [.ref 16, .int 0]), (xI 1024), .inr (4, [.ref 18, .ref 19, .ref 20, .ref 21, .ref 22, .ref 23, .ref 24, .ref 25]), (xI 8), (xI 192), (xI 192), (xI 192), (xI 192), (xI 192), (xI 192), (xJ 1536), .inr (5, [.ref 27, .ref 28, .ref 29, .ref 30, .ref 31, .ref 32, .ref 33, .ref 34, .ref 35, .ref 36, .ref 37, .int 0]), (xI 192), (xI 192), .inl (.int, 192, .inl xOne), (xZ 192), (xI 192), (xI 192), (xB 12288), (xJ 12288), (xB 12288), (xZ 192), (xI 192), .inr (5, [.ref 39, .ref 40, .ref 41, .ref 42, .ref 43, .ref 44, .ref 45, .ref 46, .ref 47, .ref 48, .ref 49, .int 0]), (xI 192), (xI 192), .inl (.int, 192, .inl xOne), (xZ 192), (xI 192), (xI 192), (xB 12288), (xJ 12288), (xB 12288), (xZ 192), (xI 192), .inr (3, [.ref 17, .ref 26, .int 0, .int 0, .long 0]), .inr (2, [.ref 52, .ref 53, .ref 54]), .inl (.int, 4, .inl (upd (upd (upd (upd (fun _ => 0) 0 (-1)) 1 (-1)) 2 (-1)) 3 (-1))), (xI 4), (xJ 160), (xJ 16), .inr (4, [.ref 57, .ref 58, .ref 59, .ref 60, .ref 61, .ref 62, .ref 63, .ref 64]), (xI 8), (xI 192), (xI 192), (xI 192), (xI 192), (xI 192), (xI 192), (xJ 1536), .inr (5, [.ref 66, .ref 67, .ref 68, .ref 69, .ref 70, .ref 71, .ref 72, .ref 73, .ref 74, .ref 75, .ref 76, .int 0]), (xI 192), (xI 192), .inl (.int, 192, .inl xOne), (xZ 192), (xI 192), (xI 192), (xB 12288), (xJ 12288), (xB 12288), (xZ 192), (xI 192)]) rfl ?_
  refine wLan 139 i93_138 rfl rfl ?_
  refine wK 140 0 i93_139 (by decide) rfl ?_
  refine wPut 143 i93_140 p93_72 rfl (by decide) rfl rfl rfl ?_
  refine tHeap (h' := [.inr (6, [.ref 1, .ref 15, .ref 17, .ref 26, .ref 38, .ref 50, .ref 51, .ref 55, .ref 56, .ref 65, .int 99, .int 0, .int 0, .int 0]), .inr (1, [.ref 2, .int 0, .ref 11, .ref 12, .ref 13, .ref 14, .int 0, .int (-1)]), .inr (4, [.ref 3, .ref 4, .ref 5, .ref 6, .ref 7, .ref 8, .ref 9, .ref 10]), (xI 1), (xI 24), (xI 24), (xI 24), (xI 24), (xI 24), (xI 24), (xJ 192), (xI 120), (xI 121), (xI 121), (xI 121), .inr (0, [.ref 16, .int 0]), (xI 1024), .inr (4, [.ref 18, .ref 19, .ref 20, .ref 21, .ref 22, .ref 23, .ref 24, .ref 25]), (xI 8), (xI 192), (xI 192), (xI 192), (xI 192), (xI 192), (xI 192), (xJ 1536), .inr (5, [.ref 27, .ref 28, .ref 29, .ref 30, .ref 31, .ref 32, .ref 33, .ref 34, .ref 35, .ref 36, .ref 37, .int 0]), (xI 192), (xI 192), .inl (.int, 192, .inl xOne), (xZ 192), (xI 192), (xI 192), (xB 12288), (xJ 12288), (xB 12288), (xZ 192), (xI 192), .inr (5, [.ref 39, .ref 40, .ref 41, .ref 42, .ref 43, .ref 44, .ref 45, .ref 46, .ref 47, .ref 48, .ref 49, .int 0]), (xI 192), (xI 192), .inl (.int, 192, .inl xOne), (xZ 192), (xI 192), (xI 192), (xB 12288), (xJ 12288), (xB 12288), (xZ 192), (xI 192), .inr (3, [.ref 17, .ref 26, .int 0, .int 0, .long 0]), .inr (2, [.ref 52, .ref 53, .ref 54]), .inl (.int, 4, .inl (upd (upd (upd (upd (fun _ => 0) 0 (-1)) 1 (-1)) 2 (-1)) 3 (-1))), (xI 4), (xJ 160), (xJ 16), .inr (4, [.ref 57, .ref 58, .ref 59, .ref 60, .ref 61, .ref 62, .ref 63, .ref 64]), (xI 8), (xI 192), (xI 192), (xI 192), (xI 192), (xI 192), (xI 192), (xJ 1536), .inr (5, [.ref 66, .ref 67, .ref 68, .ref 69, .ref 70, .ref 71, .ref 72, .ref 73, .ref 74, .ref 75, .ref 76, .int 0]), (xI 192), (xI 192), .inl (.int, 192, .inl xOne), (xZ 192), (xI 192), (xI 192), (xB 12288), (xJ 12288), (xB 12288), (xZ 192), (xI 192)]) rfl ?_
  refine wLan 144 i93_143 rfl rfl ?_
  refine wKb 146 99 i93_144 (by decide) rfl ?_
  refine wPut 149 i93_146 p93_76 rfl (by decide) rfl rfl rfl ?_
  refine tHeap (h' := [.inr (6, [.ref 1, .ref 15, .ref 17, .ref 26, .ref 38, .ref 50, .ref 51, .ref 55, .ref 56, .ref 65, .int 99, .int 0, .int 99, .int 0]), .inr (1, [.ref 2, .int 0, .ref 11, .ref 12, .ref 13, .ref 14, .int 0, .int (-1)]), .inr (4, [.ref 3, .ref 4, .ref 5, .ref 6, .ref 7, .ref 8, .ref 9, .ref 10]), (xI 1), (xI 24), (xI 24), (xI 24), (xI 24), (xI 24), (xI 24), (xJ 192), (xI 120), (xI 121), (xI 121), (xI 121), .inr (0, [.ref 16, .int 0]), (xI 1024), .inr (4, [.ref 18, .ref 19, .ref 20, .ref 21, .ref 22, .ref 23, .ref 24, .ref 25]), (xI 8), (xI 192), (xI 192), (xI 192), (xI 192), (xI 192), (xI 192), (xJ 1536), .inr (5, [.ref 27, .ref 28, .ref 29, .ref 30, .ref 31, .ref 32, .ref 33, .ref 34, .ref 35, .ref 36, .ref 37, .int 0]), (xI 192), (xI 192), .inl (.int, 192, .inl xOne), (xZ 192), (xI 192), (xI 192), (xB 12288), (xJ 12288), (xB 12288), (xZ 192), (xI 192), .inr (5, [.ref 39, .ref 40, .ref 41, .ref 42, .ref 43, .ref 44, .ref 45, .ref 46, .ref 47, .ref 48, .ref 49, .int 0]), (xI 192), (xI 192), .inl (.int, 192, .inl xOne), (xZ 192), (xI 192), (xI 192), (xB 12288), (xJ 12288), (xB 12288), (xZ 192), (xI 192), .inr (3, [.ref 17, .ref 26, .int 0, .int 0, .long 0]), .inr (2, [.ref 52, .ref 53, .ref 54]), .inl (.int, 4, .inl (upd (upd (upd (upd (fun _ => 0) 0 (-1)) 1 (-1)) 2 (-1)) 3 (-1))), (xI 4), (xJ 160), (xJ 16), .inr (4, [.ref 57, .ref 58, .ref 59, .ref 60, .ref 61, .ref 62, .ref 63, .ref 64]), (xI 8), (xI 192), (xI 192), (xI 192), (xI 192), (xI 192), (xI 192), (xJ 1536), .inr (5, [.ref 66, .ref 67, .ref 68, .ref 69, .ref 70, .ref 71, .ref 72, .ref 73, .ref 74, .ref 75, .ref 76, .int 0]), (xI 192), (xI 192), .inl (.int, 192, .inl xOne), (xZ 192), (xI 192), (xI 192), (xB 12288), (xJ 12288), (xB 12288), (xZ 192), (xI 192)]) rfl ?_
  refine wLan 150 i93_149 rfl rfl ?_
  refine wK 151 0 i93_150 (by decide) rfl ?_
  refine wPut 154 i93_151 p93_79 rfl (by decide) rfl rfl rfl ?_
  refine tHeap (h' := [.inr (6, [.ref 1, .ref 15, .ref 17, .ref 26, .ref 38, .ref 50, .ref 51, .ref 55, .ref 56, .ref 65, .int 99, .int 0, .int 99, .int 0]), .inr (1, [.ref 2, .int 0, .ref 11, .ref 12, .ref 13, .ref 14, .int 0, .int (-1)]), .inr (4, [.ref 3, .ref 4, .ref 5, .ref 6, .ref 7, .ref 8, .ref 9, .ref 10]), (xI 1), (xI 24), (xI 24), (xI 24), (xI 24), (xI 24), (xI 24), (xJ 192), (xI 120), (xI 121), (xI 121), (xI 121), .inr (0, [.ref 16, .int 0]), (xI 1024), .inr (4, [.ref 18, .ref 19, .ref 20, .ref 21, .ref 22, .ref 23, .ref 24, .ref 25]), (xI 8), (xI 192), (xI 192), (xI 192), (xI 192), (xI 192), (xI 192), (xJ 1536), .inr (5, [.ref 27, .ref 28, .ref 29, .ref 30, .ref 31, .ref 32, .ref 33, .ref 34, .ref 35, .ref 36, .ref 37, .int 0]), (xI 192), (xI 192), .inl (.int, 192, .inl xOne), (xZ 192), (xI 192), (xI 192), (xB 12288), (xJ 12288), (xB 12288), (xZ 192), (xI 192), .inr (5, [.ref 39, .ref 40, .ref 41, .ref 42, .ref 43, .ref 44, .ref 45, .ref 46, .ref 47, .ref 48, .ref 49, .int 0]), (xI 192), (xI 192), .inl (.int, 192, .inl xOne), (xZ 192), (xI 192), (xI 192), (xB 12288), (xJ 12288), (xB 12288), (xZ 192), (xI 192), .inr (3, [.ref 17, .ref 26, .int 0, .int 0, .long 0]), .inr (2, [.ref 52, .ref 53, .ref 54]), .inl (.int, 4, .inl (upd (upd (upd (upd (fun _ => 0) 0 (-1)) 1 (-1)) 2 (-1)) 3 (-1))), (xI 4), (xJ 160), (xJ 16), .inr (4, [.ref 57, .ref 58, .ref 59, .ref 60, .ref 61, .ref 62, .ref 63, .ref 64]), (xI 8), (xI 192), (xI 192), (xI 192), (xI 192), (xI 192), (xI 192), (xJ 1536), .inr (5, [.ref 66, .ref 67, .ref 68, .ref 69, .ref 70, .ref 71, .ref 72, .ref 73, .ref 74, .ref 75, .ref 76, .int 0]), (xI 192), (xI 192), .inl (.int, 192, .inl xOne), (xZ 192), (xI 192), (xI 192), (xB 12288), (xJ 12288), (xB 12288), (xZ 192), (xI 192)]) rfl ?_
  refine wR0 i93_154 m93 ?_
  exact rfl
