section
theorem i73_97 : xIns xg 73 97 = some (.iload_n 2) := by decide +kernel
theorem i73_98 : xIns xg 73 98 = some (.iload_n 1) := by decide +kernel
theorem i73_99 : xIns xg 73 99 = some (.if_icmp .ge 16) := by decide +kernel
theorem i73_102 : xIns xg 73 102 = some (.aload_n 0) := by decide +kernel
theorem i73_103 : xIns xg 73 103 = some (.getfield 22) := by decide +kernel
theorem i73_106 : xIns xg 73 106 = some (.iload_n 2) := by decide +kernel
theorem i73_107 : xIns xg 73 107 = some (.iconst 1) := by decide +kernel
theorem i73_108 : xIns xg 73 108 = some (.iastore) := by decide +kernel
theorem i73_109 : xIns xg 73 109 = some (.iinc 2 1) := by decide +kernel
theorem i73_112 : xIns xg 73 112 = some (.goto (-15)) := by decide +kernel
theorem i73_115 : xIns xg 73 115 = some (.return_) := by decide +kernel
theorem m73 : (xMet xg 73).2.2 = (3, none) := by decide +kernel
theorem f73_22 : xFld xg 73 22 = some (5, 2) := by decide +kernel
theorem i66_0 : xIns xg 66 0 = some (.aload_n 0) := by decide +kernel
theorem i66_1 : xIns xg 66 1 = some (.invokespecial 3) := by decide +kernel
theorem l66_3 : xMth xg 66 3 = some (6, 0, 0, 0) := by decide +kernel
theorem i66_4 : xIns xg 66 4 = some (.iload_n 1) := by decide +kernel
theorem i66_5 : xIns xg 66 5 = some (.bipush 24) := by decide +kernel
theorem i66_7 : xIns xg 66 7 = some (.imul) := by decide +kernel
theorem i66_8 : xIns xg 66 8 = some (.istore_n 2) := by decide +kernel
theorem m66 : (xMet xg 66).2.2 = (3, none) := by decide +kernel
theorem i66_9 : xIns xg 66 9 = some (.aload_n 0) := by decide +kernel
theorem i66_10 : xIns xg 66 10 = some (.iload_n 1) := by decide +kernel
theorem i66_11 : xIns xg 66 11 = some (.newarray .int) := by decide +kernel
theorem i66_13 : xIns xg 66 13 = some (.putfield 9) := by decide +kernel
theorem p66_9 : xPut xg 66 9 = some (4, 0, (.array .int)) := by decide +kernel
theorem i66_16 : xIns xg 66 16 = some (.aload_n 0) := by decide +kernel
theorem i66_17 : xIns xg 66 17 = some (.iload_n 2) := by decide +kernel
theorem i66_18 : xIns xg 66 18 = some (.newarray .int) := by decide +kernel
theorem i66_20 : xIns xg 66 20 = some (.putfield 15) := by decide +kernel
theorem p66_15 : xPut xg 66 15 = some (4, 1, (.array .int)) := by decide +kernel
theorem i66_23 : xIns xg 66 23 = some (.aload_n 0) := by decide +kernel
theorem i66_24 : xIns xg 66 24 = some (.iload_n 2) := by decide +kernel
theorem i66_25 : xIns xg 66 25 = some (.newarray .int) := by decide +kernel
theorem i66_27 : xIns xg 66 27 = some (.putfield 18) := by decide +kernel
theorem p66_18 : xPut xg 66 18 = some (4, 2, (.array .int)) := by decide +kernel
theorem i66_30 : xIns xg 66 30 = some (.aload_n 0) := by decide +kernel
theorem i66_31 : xIns xg 66 31 = some (.iload_n 2) := by decide +kernel
theorem i66_32 : xIns xg 66 32 = some (.newarray .int) := by decide +kernel
theorem i66_34 : xIns xg 66 34 = some (.putfield 21) := by decide +kernel
theorem p66_21 : xPut xg 66 21 = some (4, 3, (.array .int)) := by decide +kernel
theorem i66_37 : xIns xg 66 37 = some (.aload_n 0) := by decide +kernel
theorem i66_38 : xIns xg 66 38 = some (.iload_n 2) := by decide +kernel
theorem i66_39 : xIns xg 66 39 = some (.newarray .int) := by decide +kernel
theorem i66_41 : xIns xg 66 41 = some (.putfield 24) := by decide +kernel
theorem p66_24 : xPut xg 66 24 = some (4, 4, (.array .int)) := by decide +kernel
theorem i66_44 : xIns xg 66 44 = some (.aload_n 0) := by decide +kernel
theorem i66_45 : xIns xg 66 45 = some (.iload_n 2) := by decide +kernel
theorem i66_46 : xIns xg 66 46 = some (.newarray .int) := by decide +kernel
theorem i66_48 : xIns xg 66 48 = some (.putfield 27) := by decide +kernel
theorem p66_27 : xPut xg 66 27 = some (4, 5, (.array .int)) := by decide +kernel
theorem i66_51 : xIns xg 66 51 = some (.aload_n 0) := by decide +kernel
theorem i66_52 : xIns xg 66 52 = some (.iload_n 2) := by decide +kernel
theorem i66_53 : xIns xg 66 53 = some (.newarray .int) := by decide +kernel
theorem i66_55 : xIns xg 66 55 = some (.putfield 30) := by decide +kernel
theorem p66_30 : xPut xg 66 30 = some (4, 6, (.array .int)) := by decide +kernel
theorem i66_58 : xIns xg 66 58 = some (.aload_n 0) := by decide +kernel
theorem i66_59 : xIns xg 66 59 = some (.iload_n 2) := by decide +kernel
theorem i66_60 : xIns xg 66 60 = some (.bipush 8) := by decide +kernel
theorem i66_62 : xIns xg 66 62 = some (.imul) := by decide +kernel
theorem i66_63 : xIns xg 66 63 = some (.newarray .long) := by decide +kernel
theorem i66_65 : xIns xg 66 65 = some (.putfield 33) := by decide +kernel
theorem p66_33 : xPut xg 66 33 = some (4, 7, (.array .long)) := by decide +kernel
theorem i66_68 : xIns xg 66 68 = some (.return_) := by decide +kernel
theorem i17_0 : xIns xg 17 0 = some (.aload_n 0) := by decide +kernel
theorem i17_1 : xIns xg 17 1 = some (.invokespecial 3) := by decide +kernel
theorem l17_3 : xMth xg 17 3 = some (6, 0, 0, 0) := by decide +kernel
theorem i17_4 : xIns xg 17 4 = some (.aload_n 0) := by decide +kernel
theorem i17_5 : xIns xg 17 5 = some (.new 9) := by decide +kernel
theorem n17_9 : xCls xg 17 9 = some 4 := by decide +kernel
theorem i17_8 : xIns xg 17 8 = some (.dup) := by decide +kernel
theorem i17_9 : xIns xg 17 9 = some (.iconst 1) := by decide +kernel
theorem i17_10 : xIns xg 17 10 = some (.invokespecial 11) := by decide +kernel
theorem l17_11 : xMth xg 17 11 = some (4, 66, 2, 4) := by decide +kernel
theorem i17_13 : xIns xg 17 13 = some (.putfield 14) := by decide +kernel
theorem p17_14 : xPut xg 17 14 = some (1, 0, (.object "LateRows$Texts")) := by decide +kernel
theorem i17_16 : xIns xg 17 16 = some (.aload_n 0) := by decide +kernel
theorem i17_17 : xIns xg 17 17 = some (.iconst 0) := by decide +kernel
theorem i17_18 : xIns xg 17 18 = some (.putfield 20) := by decide +kernel
theorem p17_20 : xPut xg 17 20 = some (1, 1, .int) := by decide +kernel
theorem i17_21 : xIns xg 17 21 = some (.aload_n 0) := by decide +kernel
theorem i17_22 : xIns xg 17 22 = some (.bipush 120) := by decide +kernel
theorem i17_24 : xIns xg 17 24 = some (.newarray .int) := by decide +kernel
theorem i17_26 : xIns xg 17 26 = some (.putfield 24) := by decide +kernel
theorem p17_24 : xPut xg 17 24 = some (1, 2, (.array .int)) := by decide +kernel
theorem i17_29 : xIns xg 17 29 = some (.aload_n 0) := by decide +kernel
theorem i17_30 : xIns xg 17 30 = some (.bipush 121) := by decide +kernel
theorem i17_32 : xIns xg 17 32 = some (.newarray .int) := by decide +kernel
theorem i17_34 : xIns xg 17 34 = some (.putfield 28) := by decide +kernel
theorem p17_28 : xPut xg 17 28 = some (1, 3, (.array .int)) := by decide +kernel
theorem i17_37 : xIns xg 17 37 = some (.aload_n 0) := by decide +kernel
theorem i17_38 : xIns xg 17 38 = some (.bipush 121) := by decide +kernel
theorem i17_40 : xIns xg 17 40 = some (.newarray .int) := by decide +kernel
theorem i17_42 : xIns xg 17 42 = some (.putfield 31) := by decide +kernel
theorem p17_31 : xPut xg 17 31 = some (1, 4, (.array .int)) := by decide +kernel
theorem i17_45 : xIns xg 17 45 = some (.aload_n 0) := by decide +kernel
theorem i17_46 : xIns xg 17 46 = some (.bipush 121) := by decide +kernel
theorem i17_48 : xIns xg 17 48 = some (.newarray .int) := by decide +kernel
theorem i17_50 : xIns xg 17 50 = some (.putfield 34) := by decide +kernel
theorem p17_34 : xPut xg 17 34 = some (1, 5, (.array .int)) := by decide +kernel
theorem i17_53 : xIns xg 17 53 = some (.aload_n 0) := by decide +kernel
theorem i17_54 : xIns xg 17 54 = some (.iconst 0) := by decide +kernel
theorem i17_55 : xIns xg 17 55 = some (.putfield 37) := by decide +kernel
theorem p17_37 : xPut xg 17 37 = some (1, 6, .int) := by decide +kernel
theorem i17_58 : xIns xg 17 58 = some (.aload_n 0) := by decide +kernel
theorem i17_59 : xIns xg 17 59 = some (.iconst (-1)) := by decide +kernel
theorem i17_60 : xIns xg 17 60 = some (.putfield 40) := by decide +kernel
theorem p17_40 : xPut xg 17 40 = some (1, 7, .int) := by decide +kernel
theorem i17_63 : xIns xg 17 63 = some (.return_) := by decide +kernel
theorem m17 : (xMet xg 17).2.2 = (1, none) := by decide +kernel
theorem i6_0 : xIns xg 6 0 = some (.aload_n 0) := by decide +kernel
theorem i6_1 : xIns xg 6 1 = some (.invokespecial 3) := by decide +kernel
theorem l6_3 : xMth xg 6 3 = some (6, 0, 0, 0) := by decide +kernel
theorem i6_4 : xIns xg 6 4 = some (.aload_n 0) := by decide +kernel
theorem i6_5 : xIns xg 6 5 = some (.sipush 1024) := by decide +kernel
theorem i6_8 : xIns xg 6 8 = some (.newarray .int) := by decide +kernel
theorem i6_10 : xIns xg 6 10 = some (.putfield 11) := by decide +kernel
theorem p6_11 : xPut xg 6 11 = some (0, 0, (.array .int)) := by decide +kernel
theorem i6_13 : xIns xg 6 13 = some (.aload_n 0) := by decide +kernel
theorem i6_14 : xIns xg 6 14 = some (.iconst 0) := by decide +kernel
theorem i6_15 : xIns xg 6 15 = some (.putfield 15) := by decide +kernel
theorem p6_15 : xPut xg 6 15 = some (0, 1, .int) := by decide +kernel
theorem i6_18 : xIns xg 6 18 = some (.return_) := by decide +kernel
theorem m6 : (xMet xg 6).2.2 = (1, none) := by decide +kernel
theorem i73_0 : xIns xg 73 0 = some (.aload_n 0) := by decide +kernel
theorem i73_1 : xIns xg 73 1 = some (.invokespecial 3) := by decide +kernel
theorem l73_3 : xMth xg 73 3 = some (6, 0, 0, 0) := by decide +kernel
theorem i73_4 : xIns xg 73 4 = some (.aload_n 0) := by decide +kernel
theorem i73_5 : xIns xg 73 5 = some (.iconst 0) := by decide +kernel
theorem i73_6 : xIns xg 73 6 = some (.putfield 9) := by decide +kernel
theorem p73_9 : xPut xg 73 9 = some (5, 11, .int) := by decide +kernel
theorem i73_9 : xIns xg 73 9 = some (.aload_n 0) := by decide +kernel
theorem i73_10 : xIns xg 73 10 = some (.iload_n 1) := by decide +kernel
theorem i73_11 : xIns xg 73 11 = some (.newarray .int) := by decide +kernel
theorem i73_13 : xIns xg 73 13 = some (.putfield 15) := by decide +kernel
theorem p73_15 : xPut xg 73 15 = some (5, 0, (.array .int)) := by decide +kernel
theorem i73_16 : xIns xg 73 16 = some (.aload_n 0) := by decide +kernel
theorem i73_17 : xIns xg 73 17 = some (.iload_n 1) := by decide +kernel
theorem i73_18 : xIns xg 73 18 = some (.newarray .int) := by decide +kernel
theorem i73_20 : xIns xg 73 20 = some (.putfield 19) := by decide +kernel
theorem p73_19 : xPut xg 73 19 = some (5, 1, (.array .int)) := by decide +kernel
theorem i73_23 : xIns xg 73 23 = some (.aload_n 0) := by decide +kernel
theorem i73_24 : xIns xg 73 24 = some (.iload_n 1) := by decide +kernel
theorem i73_25 : xIns xg 73 25 = some (.newarray .int) := by decide +kernel
theorem i73_27 : xIns xg 73 27 = some (.putfield 22) := by decide +kernel
theorem p73_22 : xPut xg 73 22 = some (5, 2, (.array .int)) := by decide +kernel
theorem i73_30 : xIns xg 73 30 = some (.aload_n 0) := by decide +kernel
theorem i73_31 : xIns xg 73 31 = some (.iload_n 1) := by decide +kernel
theorem i73_32 : xIns xg 73 32 = some (.newarray .boolean) := by decide +kernel
theorem i73_34 : xIns xg 73 34 = some (.putfield 25) := by decide +kernel
theorem p73_25 : xPut xg 73 25 = some (5, 3, (.array .boolean)) := by decide +kernel
theorem i73_37 : xIns xg 73 37 = some (.aload_n 0) := by decide +kernel
theorem i73_38 : xIns xg 73 38 = some (.iload_n 1) := by decide +kernel
theorem i73_39 : xIns xg 73 39 = some (.newarray .int) := by decide +kernel
theorem i73_41 : xIns xg 73 41 = some (.putfield 29) := by decide +kernel
theorem p73_29 : xPut xg 73 29 = some (5, 4, (.array .int)) := by decide +kernel
theorem i73_44 : xIns xg 73 44 = some (.aload_n 0) := by decide +kernel
theorem i73_45 : xIns xg 73 45 = some (.iload_n 1) := by decide +kernel
theorem i73_46 : xIns xg 73 46 = some (.newarray .int) := by decide +kernel
theorem i73_48 : xIns xg 73 48 = some (.putfield 32) := by decide +kernel
theorem p73_32 : xPut xg 73 32 = some (5, 5, (.array .int)) := by decide +kernel
theorem i73_51 : xIns xg 73 51 = some (.aload_n 0) := by decide +kernel
theorem i73_52 : xIns xg 73 52 = some (.iload_n 1) := by decide +kernel
theorem i73_53 : xIns xg 73 53 = some (.bipush 64) := by decide +kernel
theorem i73_55 : xIns xg 73 55 = some (.imul) := by decide +kernel
theorem i73_56 : xIns xg 73 56 = some (.newarray .byte) := by decide +kernel
theorem i73_58 : xIns xg 73 58 = some (.putfield 35) := by decide +kernel
theorem p73_35 : xPut xg 73 35 = some (5, 6, (.array .byte)) := by decide +kernel
theorem i73_61 : xIns xg 73 61 = some (.aload_n 0) := by decide +kernel
theorem i73_62 : xIns xg 73 62 = some (.iload_n 1) := by decide +kernel
theorem i73_63 : xIns xg 73 63 = some (.bipush 64) := by decide +kernel
theorem i73_65 : xIns xg 73 65 = some (.imul) := by decide +kernel
theorem i73_66 : xIns xg 73 66 = some (.newarray .long) := by decide +kernel
theorem i73_68 : xIns xg 73 68 = some (.putfield 39) := by decide +kernel
theorem p73_39 : xPut xg 73 39 = some (5, 7, (.array .long)) := by decide +kernel
theorem i73_71 : xIns xg 73 71 = some (.aload_n 0) := by decide +kernel
theorem i73_72 : xIns xg 73 72 = some (.iload_n 1) := by decide +kernel
theorem i73_73 : xIns xg 73 73 = some (.bipush 64) := by decide +kernel
theorem i73_75 : xIns xg 73 75 = some (.imul) := by decide +kernel
theorem i73_76 : xIns xg 73 76 = some (.newarray .byte) := by decide +kernel
theorem i73_78 : xIns xg 73 78 = some (.putfield 43) := by decide +kernel
theorem p73_43 : xPut xg 73 43 = some (5, 8, (.array .byte)) := by decide +kernel
theorem i73_81 : xIns xg 73 81 = some (.aload_n 0) := by decide +kernel
theorem i73_82 : xIns xg 73 82 = some (.iload_n 1) := by decide +kernel
theorem i73_83 : xIns xg 73 83 = some (.newarray .boolean) := by decide +kernel
theorem i73_85 : xIns xg 73 85 = some (.putfield 46) := by decide +kernel
theorem p73_46 : xPut xg 73 46 = some (5, 9, (.array .boolean)) := by decide +kernel
theorem i73_88 : xIns xg 73 88 = some (.aload_n 0) := by decide +kernel
theorem i73_89 : xIns xg 73 89 = some (.iload_n 1) := by decide +kernel
theorem i73_90 : xIns xg 73 90 = some (.newarray .int) := by decide +kernel
theorem i73_92 : xIns xg 73 92 = some (.putfield 49) := by decide +kernel
theorem p73_49 : xPut xg 73 49 = some (5, 10, (.array .int)) := by decide +kernel
theorem i73_95 : xIns xg 73 95 = some (.iconst 0) := by decide +kernel
theorem i73_96 : xIns xg 73 96 = some (.istore_n 2) := by decide +kernel
theorem i48_0 : xIns xg 48 0 = some (.aload_n 0) := by decide +kernel
theorem i48_1 : xIns xg 48 1 = some (.invokespecial 3) := by decide +kernel
theorem l48_3 : xMth xg 48 3 = some (6, 0, 0, 0) := by decide +kernel
theorem i48_4 : xIns xg 48 4 = some (.aload_n 0) := by decide +kernel
theorem i48_5 : xIns xg 48 5 = some (.iconst 0) := by decide +kernel
theorem i48_6 : xIns xg 48 6 = some (.putfield 9) := by decide +kernel
theorem p48_9 : xPut xg 48 9 = some (3, 2, .int) := by decide +kernel
theorem i48_9 : xIns xg 48 9 = some (.aload_n 0) := by decide +kernel
theorem i48_10 : xIns xg 48 10 = some (.iconst 0) := by decide +kernel
theorem i48_11 : xIns xg 48 11 = some (.putfield 15) := by decide +kernel
theorem p48_15 : xPut xg 48 15 = some (3, 3, .int) := by decide +kernel
theorem i48_14 : xIns xg 48 14 = some (.aload_n 0) := by decide +kernel
theorem i48_15 : xIns xg 48 15 = some (.lconst 0) := by decide +kernel
theorem i48_16 : xIns xg 48 16 = some (.putfield 18) := by decide +kernel
theorem p48_18 : xPut xg 48 18 = some (3, 4, .long) := by decide +kernel
theorem i48_19 : xIns xg 48 19 = some (.aload_n 0) := by decide +kernel
theorem i48_20 : xIns xg 48 20 = some (.aload_n 1) := by decide +kernel
theorem i48_21 : xIns xg 48 21 = some (.putfield 22) := by decide +kernel
theorem p48_22 : xPut xg 48 22 = some (3, 0, (.object "LateRows$Texts")) := by decide +kernel
theorem i48_24 : xIns xg 48 24 = some (.aload_n 0) := by decide +kernel
theorem i48_25 : xIns xg 48 25 = some (.aload_n 2) := by decide +kernel
theorem i48_26 : xIns xg 48 26 = some (.putfield 26) := by decide +kernel
theorem p48_26 : xPut xg 48 26 = some (3, 1, (.object "LateRows$Told")) := by decide +kernel
theorem i48_29 : xIns xg 48 29 = some (.return_) := by decide +kernel
theorem m48 : (xMet xg 48).2.2 = (3, none) := by decide +kernel
theorem i32_0 : xIns xg 32 0 = some (.aload_n 0) := by decide +kernel
theorem i32_1 : xIns xg 32 1 = some (.invokespecial 3) := by decide +kernel
theorem l32_3 : xMth xg 32 3 = some (6, 0, 0, 0) := by decide +kernel
theorem i32_4 : xIns xg 32 4 = some (.aload_n 0) := by decide +kernel
theorem i32_5 : xIns xg 32 5 = some (.iconst 4) := by decide +kernel
theorem i32_6 : xIns xg 32 6 = some (.newarray .int) := by decide +kernel
theorem i32_8 : xIns xg 32 8 = some (.putfield 9) := by decide +kernel
theorem p32_9 : xPut xg 32 9 = some (2, 0, (.array .int)) := by decide +kernel
theorem i32_11 : xIns xg 32 11 = some (.aload_n 0) := by decide +kernel
theorem i32_12 : xIns xg 32 12 = some (.iconst 4) := by decide +kernel
theorem i32_13 : xIns xg 32 13 = some (.newarray .int) := by decide +kernel
theorem i32_15 : xIns xg 32 15 = some (.putfield 15) := by decide +kernel
theorem p32_15 : xPut xg 32 15 = some (2, 1, (.array .int)) := by decide +kernel
theorem i32_18 : xIns xg 32 18 = some (.aload_n 0) := by decide +kernel
theorem i32_19 : xIns xg 32 19 = some (.sipush 160) := by decide +kernel
theorem i32_22 : xIns xg 32 22 = some (.newarray .long) := by decide +kernel
theorem i32_24 : xIns xg 32 24 = some (.putfield 18) := by decide +kernel
theorem p32_18 : xPut xg 32 18 = some (2, 2, (.array .long)) := by decide +kernel
theorem i32_27 : xIns xg 32 27 = some (.iconst 0) := by decide +kernel
theorem i32_28 : xIns xg 32 28 = some (.istore_n 1) := by decide +kernel
theorem m32 : (xMet xg 32).2.2 = (2, none) := by decide +kernel
theorem i32_29 : xIns xg 32 29 = some (.iload_n 1) := by decide +kernel
theorem i32_30 : xIns xg 32 30 = some (.iconst 4) := by decide +kernel
theorem i32_31 : xIns xg 32 31 = some (.if_icmp .ge 16) := by decide +kernel
theorem i32_34 : xIns xg 32 34 = some (.aload_n 0) := by decide +kernel
theorem i32_35 : xIns xg 32 35 = some (.getfield 9) := by decide +kernel
theorem f32_9 : xFld xg 32 9 = some (2, 0) := by decide +kernel
theorem i32_38 : xIns xg 32 38 = some (.iload_n 1) := by decide +kernel
theorem i32_39 : xIns xg 32 39 = some (.iconst (-1)) := by decide +kernel
theorem i32_40 : xIns xg 32 40 = some (.iastore) := by decide +kernel
theorem i32_41 : xIns xg 32 41 = some (.iinc 1 1) := by decide +kernel
theorem i32_44 : xIns xg 32 44 = some (.goto (-15)) := by decide +kernel
theorem i32_47 : xIns xg 32 47 = some (.return_) := by decide +kernel
theorem i93_0 : xIns xg 93 0 = some (.aload_n 0) := by decide +kernel
theorem i93_1 : xIns xg 93 1 = some (.invokespecial 1) := by decide +kernel
theorem l93_1 : xMth xg 93 1 = some (6, 0, 0, 0) := by decide +kernel
theorem i93_4 : xIns xg 93 4 = some (.aload_n 0) := by decide +kernel
theorem i93_5 : xIns xg 93 5 = some (.new 7) := by decide +kernel
theorem n93_7 : xCls xg 93 7 = some 1 := by decide +kernel
theorem i93_8 : xIns xg 93 8 = some (.dup) := by decide +kernel
theorem i93_9 : xIns xg 93 9 = some (.invokespecial 9) := by decide +kernel
theorem l93_9 : xMth xg 93 9 = some (5, 17, 1, 1) := by decide +kernel
theorem i93_12 : xIns xg 93 12 = some (.putfield 10) := by decide +kernel
theorem p93_10 : xPut xg 93 10 = some (6, 0, (.object "LateRows$Reader")) := by decide +kernel
theorem i93_15 : xIns xg 93 15 = some (.aload_n 0) := by decide +kernel
theorem i93_16 : xIns xg 93 16 = some (.new 16) := by decide +kernel
theorem n93_16 : xCls xg 93 16 = some 0 := by decide +kernel
theorem i93_19 : xIns xg 93 19 = some (.dup) := by decide +kernel
theorem i93_20 : xIns xg 93 20 = some (.invokespecial 18) := by decide +kernel
theorem l93_18 : xMth xg 93 18 = some (5, 6, 1, 0) := by decide +kernel
theorem i93_23 : xIns xg 93 23 = some (.putfield 19) := by decide +kernel
theorem p93_19 : xPut xg 93 19 = some (6, 1, (.object "LateRows$Printer")) := by decide +kernel
theorem i93_26 : xIns xg 93 26 = some (.aload_n 0) := by decide +kernel
theorem i93_27 : xIns xg 93 27 = some (.new 23) := by decide +kernel
theorem n93_23 : xCls xg 93 23 = some 4 := by decide +kernel
theorem i93_30 : xIns xg 93 30 = some (.dup) := by decide +kernel
theorem i93_31 : xIns xg 93 31 = some (.bipush 8) := by decide +kernel
theorem i93_33 : xIns xg 93 33 = some (.invokespecial 25) := by decide +kernel
theorem l93_25 : xMth xg 93 25 = some (4, 66, 2, 4) := by decide +kernel
theorem i93_36 : xIns xg 93 36 = some (.putfield 28) := by decide +kernel
theorem p93_28 : xPut xg 93 28 = some (6, 2, (.object "LateRows$Texts")) := by decide +kernel
theorem i93_39 : xIns xg 93 39 = some (.aload_n 0) := by decide +kernel
theorem i93_40 : xIns xg 93 40 = some (.new 32) := by decide +kernel
theorem n93_32 : xCls xg 93 32 = some 5 := by decide +kernel
theorem i93_43 : xIns xg 93 43 = some (.dup) := by decide +kernel
theorem i93_44 : xIns xg 93 44 = some (.sipush 192) := by decide +kernel
theorem i93_47 : xIns xg 93 47 = some (.invokespecial 34) := by decide +kernel
theorem l93_34 : xMth xg 93 34 = some (4, 73, 2, 5) := by decide +kernel
theorem i93_50 : xIns xg 93 50 = some (.putfield 35) := by decide +kernel
theorem p93_35 : xPut xg 93 35 = some (6, 3, (.object "LateRows$Told")) := by decide +kernel
theorem i93_53 : xIns xg 93 53 = some (.aload_n 0) := by decide +kernel
theorem i93_54 : xIns xg 93 54 = some (.new 32) := by decide +kernel
theorem i93_57 : xIns xg 93 57 = some (.dup) := by decide +kernel
theorem i93_58 : xIns xg 93 58 = some (.sipush 192) := by decide +kernel
theorem i93_61 : xIns xg 93 61 = some (.invokespecial 34) := by decide +kernel
theorem i93_64 : xIns xg 93 64 = some (.putfield 39) := by decide +kernel
theorem p93_39 : xPut xg 93 39 = some (6, 4, (.object "LateRows$Told")) := by decide +kernel
theorem i93_67 : xIns xg 93 67 = some (.aload_n 0) := by decide +kernel
theorem i93_68 : xIns xg 93 68 = some (.new 42) := by decide +kernel
theorem n93_42 : xCls xg 93 42 = some 3 := by decide +kernel
theorem i93_71 : xIns xg 93 71 = some (.dup) := by decide +kernel
theorem i93_72 : xIns xg 93 72 = some (.aload_n 0) := by decide +kernel
theorem i93_73 : xIns xg 93 73 = some (.getfield 28) := by decide +kernel
theorem f93_28 : xFld xg 93 28 = some (6, 2) := by decide +kernel
theorem i93_76 : xIns xg 93 76 = some (.aload_n 0) := by decide +kernel
theorem i93_77 : xIns xg 93 77 = some (.getfield 35) := by decide +kernel
theorem f93_35 : xFld xg 93 35 = some (6, 3) := by decide +kernel
theorem i93_80 : xIns xg 93 80 = some (.invokespecial 44) := by decide +kernel
theorem l93_44 : xMth xg 93 44 = some (4, 48, 3, 3) := by decide +kernel
theorem i93_83 : xIns xg 93 83 = some (.putfield 47) := by decide +kernel
theorem p93_47 : xPut xg 93 47 = some (6, 5, (.object "LateRows$Teller")) := by decide +kernel
theorem i93_86 : xIns xg 93 86 = some (.aload_n 0) := by decide +kernel
theorem i93_87 : xIns xg 93 87 = some (.new 51) := by decide +kernel
theorem n93_51 : xCls xg 93 51 = some 2 := by decide +kernel
theorem i93_90 : xIns xg 93 90 = some (.dup) := by decide +kernel
theorem i93_91 : xIns xg 93 91 = some (.invokespecial 53) := by decide +kernel
theorem l93_53 : xMth xg 93 53 = some (4, 32, 1, 2) := by decide +kernel
theorem i93_94 : xIns xg 93 94 = some (.putfield 54) := by decide +kernel
theorem p93_54 : xPut xg 93 54 = some (6, 6, (.object "LateRows$Sheets")) := by decide +kernel
theorem i93_97 : xIns xg 93 97 = some (.aload_n 0) := by decide +kernel
theorem i93_98 : xIns xg 93 98 = some (.bipush 16) := by decide +kernel
theorem i93_100 : xIns xg 93 100 = some (.newarray .long) := by decide +kernel
theorem i93_102 : xIns xg 93 102 = some (.putfield 58) := by decide +kernel
theorem p93_58 : xPut xg 93 58 = some (6, 7, (.array .long)) := by decide +kernel
theorem i93_105 : xIns xg 93 105 = some (.aload_n 0) := by decide +kernel
theorem i93_106 : xIns xg 93 106 = some (.new 23) := by decide +kernel
theorem i93_109 : xIns xg 93 109 = some (.dup) := by decide +kernel
theorem i93_110 : xIns xg 93 110 = some (.bipush 8) := by decide +kernel
theorem i93_112 : xIns xg 93 112 = some (.invokespecial 25) := by decide +kernel
theorem i93_115 : xIns xg 93 115 = some (.putfield 62) := by decide +kernel
theorem p93_62 : xPut xg 93 62 = some (6, 8, (.object "LateRows$Texts")) := by decide +kernel
theorem i93_118 : xIns xg 93 118 = some (.aload_n 0) := by decide +kernel
theorem i93_119 : xIns xg 93 119 = some (.new 32) := by decide +kernel
theorem i93_122 : xIns xg 93 122 = some (.dup) := by decide +kernel
theorem i93_123 : xIns xg 93 123 = some (.sipush 192) := by decide +kernel
theorem i93_126 : xIns xg 93 126 = some (.invokespecial 34) := by decide +kernel
theorem i93_129 : xIns xg 93 129 = some (.putfield 65) := by decide +kernel
theorem p93_65 : xPut xg 93 65 = some (6, 9, (.object "LateRows$Told")) := by decide +kernel
theorem i93_132 : xIns xg 93 132 = some (.aload_n 0) := by decide +kernel
theorem i93_133 : xIns xg 93 133 = some (.bipush 99) := by decide +kernel
theorem i93_135 : xIns xg 93 135 = some (.putfield 68) := by decide +kernel
theorem p93_68 : xPut xg 93 68 = some (6, 10, .int) := by decide +kernel
theorem i93_138 : xIns xg 93 138 = some (.aload_n 0) := by decide +kernel
theorem i93_139 : xIns xg 93 139 = some (.iconst 0) := by decide +kernel
theorem i93_140 : xIns xg 93 140 = some (.putfield 72) := by decide +kernel
theorem p93_72 : xPut xg 93 72 = some (6, 11, .boolean) := by decide +kernel
theorem i93_143 : xIns xg 93 143 = some (.aload_n 0) := by decide +kernel
theorem i93_144 : xIns xg 93 144 = some (.bipush 99) := by decide +kernel
theorem i93_146 : xIns xg 93 146 = some (.putfield 76) := by decide +kernel
theorem p93_76 : xPut xg 93 76 = some (6, 12, .int) := by decide +kernel
theorem i93_149 : xIns xg 93 149 = some (.aload_n 0) := by decide +kernel
theorem i93_150 : xIns xg 93 150 = some (.iconst 0) := by decide +kernel
theorem i93_151 : xIns xg 93 151 = some (.putfield 79) := by decide +kernel
theorem p93_79 : xPut xg 93 79 = some (6, 13, .int) := by decide +kernel
theorem i93_154 : xIns xg 93 154 = some (.return_) := by decide +kernel
theorem m93 : (xMet xg 93).2.2 = (1, none) := by decide +kernel
def xOne : Nat → Int32 := fun j => if j < 192 then 1 else 0
/-- Told's last loop: the row is filled with 1 -/
theorem told_fill {sc : xS} {d : Nat} {Q : xR → Prop} (o g : Nat) (fs : List Value) (hf : fs[2]? = some (.ref g)) (hog : g ≠ o) : ∀ (n i : Nat) (v : Int32) (h : xH) (f : Nat → Int32), i + n = 192 → v = nI i → h[o]? = some (.inr (5, fs)) → h[g]? = some (.inl (.int, 192, .inl f)) → (∀ j, j < i → f j = 1) → (∀ j, i ≤ j → f j = 0) →
    xT xg sc d 73 115 [(2, .int 192), (0, .ref o), (1, .int 192)] [] (h.set g (.inl (.int, 192, .inl xOne))) Q → xT xg sc d 73 97 [(2, .int v), (0, .ref o), (1, .int 192)] [] h Q := by
  intro n
  induction n with
  | zero =>
    intro i v h f hi hv ho hg h1 h0 k
    obtain rfl : i = 192 := by omega
    have hv : v = 192 := hv
    subst hv
    have hfe : f = xOne := by
      funext j
      unfold xOne
      by_cases hj : j < 192
      · rw [if_pos hj, h1 j hj]
      · rw [if_neg hj, h0 j (by omega)]
    subst hfe
    rw [xset_self hg] at k
    refine wLin 98 i73_97 rfl rfl ?_
    refine wLin 99 i73_98 rfl rfl ?_
    refine wCT 115 i73_99 rfl (by decide) ?_
    exact k
  | succ n ih =>
    intro i v h f hi hv ho hg h1 h0 k
    have hi2 : i < 192 := by omega
    subst hv
    refine wLin 98 i73_97 rfl rfl ?_
    refine wLin 99 i73_98 rfl rfl ?_
    refine wCF 115 102 i73_99 rfl (decide_eq_false (by exact nI_ge (a := i) (b := 192) hi2 (by decide))) rfl ?_
    refine wLan 103 i73_102 rfl rfl ?_
    refine wGet 106 (.ref g) i73_103 f73_22 ho hf rfl ?_
    refine wLin 107 i73_106 rfl rfl ?_
    refine wK 108 1 i73_107 (by decide) rfl ?_
    refine wIas 109 i73_108 hg (xinb hi2 (by decide)) rfl ?_
    refine wInc 112 [(2, .int (nI (i + 1))), (0, .ref o), (1, .int 192)] (nI (i + 1)) i73_109 m73 (by decide) rfl (nI_1 i) rfl rfl ?_
    refine wGo 97 i73_112 rfl ?_
    rw [nI_clamp (by omega)]
    refine ih (i + 1) (nI (i + 1)) _ (upd f i 1) (by omega) rfl (by rw [xset_ne hog]; exact ho) (xset_get hg) (fun j hj => ?_) (fun j hj => ?_) (by rw [List.set_set]; exact k)
    · by_cases hji : j = i
      · subst hji; exact pk_us
      · rw [pk_un hji]; exact h1 j (by omega)
    · rw [pk_un (by omega)]; exact h0 j (by omega)
set_option maxHeartbeats 4000000 in
set_option maxRecDepth 100000 in
theorem k_Texts_2 {sc : xS} {d : Nat} (c0 c1 : xE) : xT xg sc (d + 1) 66 0 [(0, .ref 2), (1, .int 1)] [] [c0, c1, .inr (4, [.null, .null, .null, .null, .null, .null, .null, .null])] (fun r => r = (none, [c0, c1, .inr (4, [.ref 3, .ref 4, .ref 5, .ref 6, .ref 7, .ref 8, .ref 9, .ref 10]), (xI 1), (xI 24), (xI 24), (xI 24), (xI 24), (xI 24), (xI 24), (xJ 192)], 8, 337)) := by
  refine wLan 1 i66_0 rfl rfl ?_
  refine tObj i66_1 l66_3 (by decide) ?_
  refine wLin 5 i66_4 rfl rfl ?_
  refine wKb 7 24 i66_5 (by decide) rfl ?_
  refine wA 8 i66_7 rfl rfl rfl ?_
  refine tTop (v := 24) (by decide) ?_
  refine wSin 9 [(2, .int 24), (0, .ref 2), (1, .int 1)] i66_8 m66 (by decide) rfl rfl ?_
  refine wLan 10 i66_9 rfl rfl ?_
  refine wLin 11 i66_10 rfl rfl ?_
  refine eNewA (n := 3) (N := 1) (c := (xI 1)) 8 337 7 336 i66_11 (by decide) (by decide) rfl rfl rfl rfl ?_
  refine tHeap (h' := [c0, c1, .inr (4, [.null, .null, .null, .null, .null, .null, .null, .null]), (xI 1)]) rfl ?_
  refine wPut 16 i66_13 p66_9 rfl (by decide) rfl rfl rfl ?_
  refine tHeap (h' := [c0, c1, .inr (4, [.ref 3, .null, .null, .null, .null, .null, .null, .null]), (xI 1)]) rfl ?_
  refine wLan 17 i66_16 rfl rfl ?_
  refine wLin 18 i66_17 rfl rfl ?_
  refine eNewA (n := 4) (N := 24) (c := (xI 24)) 7 336 6 312 i66_18 (by decide) (by decide) rfl rfl rfl rfl ?_
  refine tHeap (h' := [c0, c1, .inr (4, [.ref 3, .null, .null, .null, .null, .null, .null, .null]), (xI 1), (xI 24)]) rfl ?_
  refine wPut 23 i66_20 p66_15 rfl (by decide) rfl rfl rfl ?_
  refine tHeap (h' := [c0, c1, .inr (4, [.ref 3, .ref 4, .null, .null, .null, .null, .null, .null]), (xI 1), (xI 24)]) rfl ?_
  refine wLan 24 i66_23 rfl rfl ?_
  refine wLin 25 i66_24 rfl rfl ?_
  refine eNewA (n := 5) (N := 24) (c := (xI 24)) 6 312 5 288 i66_25 (by decide) (by decide) rfl rfl rfl rfl ?_
  refine tHeap (h' := [c0, c1, .inr (4, [.ref 3, .ref 4, .null, .null, .null, .null, .null, .null]), (xI 1), (xI 24), (xI 24)]) rfl ?_
  refine wPut 30 i66_27 p66_18 rfl (by decide) rfl rfl rfl ?_
  refine tHeap (h' := [c0, c1, .inr (4, [.ref 3, .ref 4, .ref 5, .null, .null, .null, .null, .null]), (xI 1), (xI 24), (xI 24)]) rfl ?_
  refine wLan 31 i66_30 rfl rfl ?_
  refine wLin 32 i66_31 rfl rfl ?_
  refine eNewA (n := 6) (N := 24) (c := (xI 24)) 5 288 4 264 i66_32 (by decide) (by decide) rfl rfl rfl rfl ?_
  refine tHeap (h' := [c0, c1, .inr (4, [.ref 3, .ref 4, .ref 5, .null, .null, .null, .null, .null]), (xI 1), (xI 24), (xI 24), (xI 24)]) rfl ?_
  refine wPut 37 i66_34 p66_21 rfl (by decide) rfl rfl rfl ?_
  refine tHeap (h' := [c0, c1, .inr (4, [.ref 3, .ref 4, .ref 5, .ref 6, .null, .null, .null, .null]), (xI 1), (xI 24), (xI 24), (xI 24)]) rfl ?_
  refine wLan 38 i66_37 rfl rfl ?_
  refine wLin 39 i66_38 rfl rfl ?_
  refine eNewA (n := 7) (N := 24) (c := (xI 24)) 4 264 3 240 i66_39 (by decide) (by decide) rfl rfl rfl rfl ?_
  refine tHeap (h' := [c0, c1, .inr (4, [.ref 3, .ref 4, .ref 5, .ref 6, .null, .null, .null, .null]), (xI 1), (xI 24), (xI 24), (xI 24), (xI 24)]) rfl ?_
  refine wPut 44 i66_41 p66_24 rfl (by decide) rfl rfl rfl ?_
  refine tHeap (h' := [c0, c1, .inr (4, [.ref 3, .ref 4, .ref 5, .ref 6, .ref 7, .null, .null, .null]), (xI 1), (xI 24), (xI 24), (xI 24), (xI 24)]) rfl ?_
  refine wLan 45 i66_44 rfl rfl ?_
  refine wLin 46 i66_45 rfl rfl ?_
  refine eNewA (n := 8) (N := 24) (c := (xI 24)) 3 240 2 216 i66_46 (by decide) (by decide) rfl rfl rfl rfl ?_
  refine tHeap (h' := [c0, c1, .inr (4, [.ref 3, .ref 4, .ref 5, .ref 6, .ref 7, .null, .null, .null]), (xI 1), (xI 24), (xI 24), (xI 24), (xI 24), (xI 24)]) rfl ?_
  refine wPut 51 i66_48 p66_27 rfl (by decide) rfl rfl rfl ?_
  refine tHeap (h' := [c0, c1, .inr (4, [.ref 3, .ref 4, .ref 5, .ref 6, .ref 7, .ref 8, .null, .null]), (xI 1), (xI 24), (xI 24), (xI 24), (xI 24), (xI 24)]) rfl ?_
  refine wLan 52 i66_51 rfl rfl ?_
  refine wLin 53 i66_52 rfl rfl ?_
  refine eNewA (n := 9) (N := 24) (c := (xI 24)) 2 216 1 192 i66_53 (by decide) (by decide) rfl rfl rfl rfl ?_
  refine tHeap (h' := [c0, c1, .inr (4, [.ref 3, .ref 4, .ref 5, .ref 6, .ref 7, .ref 8, .null, .null]), (xI 1), (xI 24), (xI 24), (xI 24), (xI 24), (xI 24), (xI 24)]) rfl ?_
  refine wPut 58 i66_55 p66_30 rfl (by decide) rfl rfl rfl ?_
  refine tHeap (h' := [c0, c1, .inr (4, [.ref 3, .ref 4, .ref 5, .ref 6, .ref 7, .ref 8, .ref 9, .null]), (xI 1), (xI 24), (xI 24), (xI 24), (xI 24), (xI 24), (xI 24)]) rfl ?_
  refine wLan 59 i66_58 rfl rfl ?_
  refine wLin 60 i66_59 rfl rfl ?_
  refine wKb 62 8 i66_60 (by decide) rfl ?_
  refine wA 63 i66_62 rfl rfl rfl ?_
  refine tTop (v := 192) (by decide) ?_
  refine eNewA (n := 10) (N := 192) (c := (xJ 192)) 1 192 0 0 i66_63 (by decide) (by decide) rfl rfl rfl rfl ?_
  refine tHeap (h' := [c0, c1, .inr (4, [.ref 3, .ref 4, .ref 5, .ref 6, .ref 7, .ref 8, .ref 9, .null]), (xI 1), (xI 24), (xI 24), (xI 24), (xI 24), (xI 24), (xI 24), (xJ 192)]) rfl ?_
  refine wPut 68 i66_65 p66_33 rfl (by decide) rfl rfl rfl ?_
  refine tHeap (h' := [c0, c1, .inr (4, [.ref 3, .ref 4, .ref 5, .ref 6, .ref 7, .ref 8, .ref 9, .ref 10]), (xI 1), (xI 24), (xI 24), (xI 24), (xI 24), (xI 24), (xI 24), (xJ 192)]) rfl ?_
  refine wR0 i66_68 m66 ?_
  exact rfl
set_option maxHeartbeats 4000000 in
set_option maxRecDepth 100000 in
theorem k_Reader_1 {sc : xS} {d : Nat} (c0 : xE) : xT xg sc (d + 2) 17 0 [(0, .ref 1)] [] [c0, .inr (1, [.null, .int 0, .null, .null, .null, .null, .int 0, .int 0])] (fun r => r = (none, [c0, .inr (1, [.ref 2, .int 0, .ref 11, .ref 12, .ref 13, .ref 14, .int 0, .int (-1)]), .inr (4, [.ref 3, .ref 4, .ref 5, .ref 6, .ref 7, .ref 8, .ref 9, .ref 10]), (xI 1), (xI 24), (xI 24), (xI 24), (xI 24), (xI 24), (xI 24), (xJ 192), (xI 120), (xI 121), (xI 121), (xI 121)], 13, 828)) := by
  refine wLan 1 i17_0 rfl rfl ?_
  refine tObj i17_1 l17_3 (by decide) ?_
  refine wLan 5 i17_4 rfl rfl ?_
  refine eNew (n := 2) (N := 8) 13 828 12 820 i17_5 n17_9 rfl rfl rfl rfl ?_
  refine tHeap (h' := [c0, .inr (1, [.null, .int 0, .null, .null, .null, .null, .int 0, .int 0]), .inr (4, [.null, .null, .null, .null, .null, .null, .null, .null])]) rfl ?_
  refine wD 9 i17_8 rfl rfl rfl ?_
  refine wK 10 1 i17_9 (by decide) rfl ?_
  refine eCallV 13 [.ref 2, .int 1] [.ref 2, .ref 1] 12 820 4 483 i17_10 rfl (xlk4 l17_11) (Or.inr (Or.inr (Or.inl rfl))) m66 rfl rfl (by decide) (by decide) (by decide) rfl rfl (k_Texts_2 _ _) rfl rfl ?_
  refine wPut 16 i17_13 p17_14 rfl (by decide) rfl rfl rfl ?_
  refine tHeap (h' := [c0, .inr (1, [.ref 2, .int 0, .null, .null, .null, .null, .int 0, .int 0]), .inr (4, [.ref 3, .ref 4, .ref 5, .ref 6, .ref 7, .ref 8, .ref 9, .ref 10]), (xI 1), (xI 24), (xI 24), (xI 24), (xI 24), (xI 24), (xI 24), (xJ 192)]) rfl ?_
  refine wLan 17 i17_16 rfl rfl ?_
  refine wK 18 0 i17_17 (by decide) rfl ?_
  refine wPut 21 i17_18 p17_20 rfl (by decide) rfl rfl rfl ?_
  refine tHeap (h' := [c0, .inr (1, [.ref 2, .int 0, .null, .null, .null, .null, .int 0, .int 0]), .inr (4, [.ref 3, .ref 4, .ref 5, .ref 6, .ref 7, .ref 8, .ref 9, .ref 10]), (xI 1), (xI 24), (xI 24), (xI 24), (xI 24), (xI 24), (xI 24), (xJ 192)]) rfl ?_
  refine wLan 22 i17_21 rfl rfl ?_
  refine wKb 24 120 i17_22 (by decide) rfl ?_
  refine eNewA (n := 11) (N := 120) (c := (xI 120)) 4 483 3 363 i17_24 (by decide) (by decide) rfl rfl rfl rfl ?_
  refine tHeap (h' := [c0, .inr (1, [.ref 2, .int 0, .null, .null, .null, .null, .int 0, .int 0]), .inr (4, [.ref 3, .ref 4, .ref 5, .ref 6, .ref 7, .ref 8, .ref 9, .ref 10]), (xI 1), (xI 24), (xI 24), (xI 24), (xI 24), (xI 24), (xI 24), (xJ 192), (xI 120)]) rfl ?_
  refine wPut 29 i17_26 p17_24 rfl (by decide) rfl rfl rfl ?_
  refine tHeap (h' := [c0, .inr (1, [.ref 2, .int 0, .ref 11, .null, .null, .null, .int 0, .int 0]), .inr (4, [.ref 3, .ref 4, .ref 5, .ref 6, .ref 7, .ref 8, .ref 9, .ref 10]), (xI 1), (xI 24), (xI 24), (xI 24), (xI 24), (xI 24), (xI 24), (xJ 192), (xI 120)]) rfl ?_
  refine wLan 30 i17_29 rfl rfl ?_
  refine wKb 32 121 i17_30 (by decide) rfl ?_
  refine eNewA (n := 12) (N := 121) (c := (xI 121)) 3 363 2 242 i17_32 (by decide) (by decide) rfl rfl rfl rfl ?_
  refine tHeap (h' := [c0, .inr (1, [.ref 2, .int 0, .ref 11, .null, .null, .null, .int 0, .int 0]), .inr (4, [.ref 3, .ref 4, .ref 5, .ref 6, .ref 7, .ref 8, .ref 9, .ref 10]), (xI 1), (xI 24), (xI 24), (xI 24), (xI 24), (xI 24), (xI 24), (xJ 192), (xI 120), (xI 121)]) rfl ?_
  refine wPut 37 i17_34 p17_28 rfl (by decide) rfl rfl rfl ?_
  refine tHeap (h' := [c0, .inr (1, [.ref 2, .int 0, .ref 11, .ref 12, .null, .null, .int 0, .int 0]), .inr (4, [.ref 3, .ref 4, .ref 5, .ref 6, .ref 7, .ref 8, .ref 9, .ref 10]), (xI 1), (xI 24), (xI 24), (xI 24), (xI 24), (xI 24), (xI 24), (xJ 192), (xI 120), (xI 121)]) rfl ?_
  refine wLan 38 i17_37 rfl rfl ?_
  refine wKb 40 121 i17_38 (by decide) rfl ?_
  refine eNewA (n := 13) (N := 121) (c := (xI 121)) 2 242 1 121 i17_40 (by decide) (by decide) rfl rfl rfl rfl ?_
  refine tHeap (h' := [c0, .inr (1, [.ref 2, .int 0, .ref 11, .ref 12, .null, .null, .int 0, .int 0]), .inr (4, [.ref 3, .ref 4, .ref 5, .ref 6, .ref 7, .ref 8, .ref 9, .ref 10]), (xI 1), (xI 24), (xI 24), (xI 24), (xI 24), (xI 24), (xI 24), (xJ 192), (xI 120), (xI 121), (xI 121)]) rfl ?_
  refine wPut 45 i17_42 p17_31 rfl (by decide) rfl rfl rfl ?_
  refine tHeap (h' := [c0, .inr (1, [.ref 2, .int 0, .ref 11, .ref 12, .ref 13, .null, .int 0, .int 0]), .inr (4, [.ref 3, .ref 4, .ref 5, .ref 6, .ref 7, .ref 8, .ref 9, .ref 10]), (xI 1), (xI 24), (xI 24), (xI 24), (xI 24), (xI 24), (xI 24), (xJ 192), (xI 120), (xI 121), (xI 121)]) rfl ?_
  refine wLan 46 i17_45 rfl rfl ?_
  refine wKb 48 121 i17_46 (by decide) rfl ?_
  refine eNewA (n := 14) (N := 121) (c := (xI 121)) 1 121 0 0 i17_48 (by decide) (by decide) rfl rfl rfl rfl ?_
  refine tHeap (h' := [c0, .inr (1, [.ref 2, .int 0, .ref 11, .ref 12, .ref 13, .null, .int 0, .int 0]), .inr (4, [.ref 3, .ref 4, .ref 5, .ref 6, .ref 7, .ref 8, .ref 9, .ref 10]), (xI 1), (xI 24), (xI 24), (xI 24), (xI 24), (xI 24), (xI 24), (xJ 192), (xI 120), (xI 121), (xI 121), (xI 121)]) rfl ?_
  refine wPut 53 i17_50 p17_34 rfl (by decide) rfl rfl rfl ?_
  refine tHeap (h' := [c0, .inr (1, [.ref 2, .int 0, .ref 11, .ref 12, .ref 13, .ref 14, .int 0, .int 0]), .inr (4, [.ref 3, .ref 4, .ref 5, .ref 6, .ref 7, .ref 8, .ref 9, .ref 10]), (xI 1), (xI 24), (xI 24), (xI 24), (xI 24), (xI 24), (xI 24), (xJ 192), (xI 120), (xI 121), (xI 121), (xI 121)]) rfl ?_
  refine wLan 54 i17_53 rfl rfl ?_
  refine wK 55 0 i17_54 (by decide) rfl ?_
  refine wPut 58 i17_55 p17_37 rfl (by decide) rfl rfl rfl ?_
  refine tHeap (h' := [c0, .inr (1, [.ref 2, .int 0, .ref 11, .ref 12, .ref 13, .ref 14, .int 0, .int 0]), .inr (4, [.ref 3, .ref 4, .ref 5, .ref 6, .ref 7, .ref 8, .ref 9, .ref 10]), (xI 1), (xI 24), (xI 24), (xI 24), (xI 24), (xI 24), (xI 24), (xJ 192), (xI 120), (xI 121), (xI 121), (xI 121)]) rfl ?_
  refine wLan 59 i17_58 rfl rfl ?_
  refine wK 60 (-1) i17_59 (by decide) rfl ?_
  refine wPut 63 i17_60 p17_40 rfl (by decide) rfl rfl rfl ?_
  refine tHeap (h' := [c0, .inr (1, [.ref 2, .int 0, .ref 11, .ref 12, .ref 13, .ref 14, .int 0, .int (-1)]), .inr (4, [.ref 3, .ref 4, .ref 5, .ref 6, .ref 7, .ref 8, .ref 9, .ref 10]), (xI 1), (xI 24), (xI 24), (xI 24), (xI 24), (xI 24), (xI 24), (xJ 192), (xI 120), (xI 121), (xI 121), (xI 121)]) rfl ?_
  refine wR0 i17_63 m17 ?_
  exact rfl
set_option maxHeartbeats 4000000 in
set_option maxRecDepth 100000 in
theorem k_Printer {sc : xS} {d : Nat} (c0 c1 c2 c3 c4 c5 c6 c7 c8 c9 c10 c11 c12 c13 c14 : xE) : xT xg sc (d + 1) 6 0 [(0, .ref 15)] [] [c0, c1, c2, c3, c4, c5, c6, c7, c8, c9, c10, c11, c12, c13, c14, .inr (0, [.null, .int 0])] (fun r => r = (none, [c0, c1, c2, c3, c4, c5, c6, c7, c8, c9, c10, c11, c12, c13, c14, .inr (0, [.ref 16, .int 0]), (xI 1024)], 1, 1024)) := by
  refine wLan 1 i6_0 rfl rfl ?_
  refine tObj i6_1 l6_3 (by decide) ?_
  refine wLan 5 i6_4 rfl rfl ?_
  refine wKs 8 1024 i6_5 (by decide) rfl ?_
  refine eNewA (n := 16) (N := 1024) (c := (xI 1024)) 1 1024 0 0 i6_8 (by decide) (by decide) rfl rfl rfl rfl ?_
  refine tHeap (h' := [c0, c1, c2, c3, c4, c5, c6, c7, c8, c9, c10, c11, c12, c13, c14, .inr (0, [.null, .int 0]), (xI 1024)]) rfl ?_
  refine wPut 13 i6_10 p6_11 rfl (by decide) rfl rfl rfl ?_
  refine tHeap (h' := [c0, c1, c2, c3, c4, c5, c6, c7, c8, c9, c10, c11, c12, c13, c14, .inr (0, [.ref 16, .int 0]), (xI 1024)]) rfl ?_
  refine wLan 14 i6_13 rfl rfl ?_
  refine wK 15 0 i6_14 (by decide) rfl ?_
  refine wPut 18 i6_15 p6_15 rfl (by decide) rfl rfl rfl ?_
  refine tHeap (h' := [c0, c1, c2, c3, c4, c5, c6, c7, c8, c9, c10, c11, c12, c13, c14, .inr (0, [.ref 16, .int 0]), (xI 1024)]) rfl ?_
  refine wR0 i6_18 m6 ?_
  exact rfl
set_option maxHeartbeats 4000000 in
set_option maxRecDepth 100000 in
theorem k_Texts_a {sc : xS} {d : Nat} (c0 c1 c2 c3 c4 c5 c6 c7 c8 c9 c10 c11 c12 c13 c14 c15 c16 : xE) : xT xg sc (d + 1) 66 0 [(0, .ref 17), (1, .int 8)] [] [c0, c1, c2, c3, c4, c5, c6, c7, c8, c9, c10, c11, c12, c13, c14, c15, c16, .inr (4, [.null, .null, .null, .null, .null, .null, .null, .null])] (fun r => r = (none, [c0, c1, c2, c3, c4, c5, c6, c7, c8, c9, c10, c11, c12, c13, c14, c15, c16, .inr (4, [.ref 18, .ref 19, .ref 20, .ref 21, .ref 22, .ref 23, .ref 24, .ref 25]), (xI 8), (xI 192), (xI 192), (xI 192), (xI 192), (xI 192), (xI 192), (xJ 1536)], 8, 2696)) := by
  refine wLan 1 i66_0 rfl rfl ?_
  refine tObj i66_1 l66_3 (by decide) ?_
  refine wLin 5 i66_4 rfl rfl ?_
  refine wKb 7 24 i66_5 (by decide) rfl ?_
  refine wA 8 i66_7 rfl rfl rfl ?_
  refine tTop (v := 192) (by decide) ?_
  refine wSin 9 [(2, .int 192), (0, .ref 17), (1, .int 8)] i66_8 m66 (by decide) rfl rfl ?_
  refine wLan 10 i66_9 rfl rfl ?_
  refine wLin 11 i66_10 rfl rfl ?_
  refine eNewA (n := 18) (N := 8) (c := (xI 8)) 8 2696 7 2688 i66_11 (by decide) (by decide) rfl rfl rfl rfl ?_
  refine tHeap (h' := [c0, c1, c2, c3, c4, c5, c6, c7, c8, c9, c10, c11, c12, c13, c14, c15, c16, .inr (4, [.null, .null, .null, .null, .null, .null, .null, .null]), (xI 8)]) rfl ?_
  refine wPut 16 i66_13 p66_9 rfl (by decide) rfl rfl rfl ?_
  refine tHeap (h' := [c0, c1, c2, c3, c4, c5, c6, c7, c8, c9, c10, c11, c12, c13, c14, c15, c16, .inr (4, [.ref 18, .null, .null, .null, .null, .null, .null, .null]), (xI 8)]) rfl ?_
  refine wLan 17 i66_16 rfl rfl ?_
  refine wLin 18 i66_17 rfl rfl ?_
  refine eNewA (n := 19) (N := 192) (c := (xI 192)) 7 2688 6 2496 i66_18 (by decide) (by decide) rfl rfl rfl rfl ?_
  refine tHeap (h' := [c0, c1, c2, c3, c4, c5, c6, c7, c8, c9, c10, c11, c12, c13, c14, c15, c16, .inr (4, [.ref 18, .null, .null, .null, .null, .null, .null, .null]), (xI 8), (xI 192)]) rfl ?_
  refine wPut 23 i66_20 p66_15 rfl (by decide) rfl rfl rfl ?_
  refine tHeap (h' := [c0, c1, c2, c3, c4, c5, c6, c7, c8, c9, c10, c11, c12, c13, c14, c15, c16, .inr (4, [.ref 18, .ref 19, .null, .null, .null, .null, .null, .null]), (xI 8), (xI 192)]) rfl ?_
  refine wLan 24 i66_23 rfl rfl ?_
  refine wLin 25 i66_24 rfl rfl ?_
  refine eNewA (n := 20) (N := 192) (c := (xI 192)) 6 2496 5 2304 i66_25 (by decide) (by decide) rfl rfl rfl rfl ?_
  refine tHeap (h' := [c0, c1, c2, c3, c4, c5, c6, c7, c8, c9, c10, c11, c12, c13, c14, c15, c16, .inr (4, [.ref 18, .ref 19, .null, .null, .null, .null, .null, .null]), (xI 8), (xI 192), (xI 192)]) rfl ?_
  refine wPut 30 i66_27 p66_18 rfl (by decide) rfl rfl rfl ?_
  refine tHeap (h' := [c0, c1, c2, c3, c4, c5, c6, c7, c8, c9, c10, c11, c12, c13, c14, c15, c16, .inr (4, [.ref 18, .ref 19, .ref 20, .null, .null, .null, .null, .null]), (xI 8), (xI 192), (xI 192)]) rfl ?_
  refine wLan 31 i66_30 rfl rfl ?_
  refine wLin 32 i66_31 rfl rfl ?_
  refine eNewA (n := 21) (N := 192) (c := (xI 192)) 5 2304 4 2112 i66_32 (by decide) (by decide) rfl rfl rfl rfl ?_
  refine tHeap (h' := [c0, c1, c2, c3, c4, c5, c6, c7, c8, c9, c10, c11, c12, c13, c14, c15, c16, .inr (4, [.ref 18, .ref 19, .ref 20, .null, .null, .null, .null, .null]), (xI 8), (xI 192), (xI 192), (xI 192)]) rfl ?_
  refine wPut 37 i66_34 p66_21 rfl (by decide) rfl rfl rfl ?_
  refine tHeap (h' := [c0, c1, c2, c3, c4, c5, c6, c7, c8, c9, c10, c11, c12, c13, c14, c15, c16, .inr (4, [.ref 18, .ref 19, .ref 20, .ref 21, .null, .null, .null, .null]), (xI 8), (xI 192), (xI 192), (xI 192)]) rfl ?_
  refine wLan 38 i66_37 rfl rfl ?_
  refine wLin 39 i66_38 rfl rfl ?_
  refine eNewA (n := 22) (N := 192) (c := (xI 192)) 4 2112 3 1920 i66_39 (by decide) (by decide) rfl rfl rfl rfl ?_
  refine tHeap (h' := [c0, c1, c2, c3, c4, c5, c6, c7, c8, c9, c10, c11, c12, c13, c14, c15, c16, .inr (4, [.ref 18, .ref 19, .ref 20, .ref 21, .null, .null, .null, .null]), (xI 8), (xI 192), (xI 192), (xI 192), (xI 192)]) rfl ?_
  refine wPut 44 i66_41 p66_24 rfl (by decide) rfl rfl rfl ?_
  refine tHeap (h' := [c0, c1, c2, c3, c4, c5, c6, c7, c8, c9, c10, c11, c12, c13, c14, c15, c16, .inr (4, [.ref 18, .ref 19, .ref 20, .ref 21, .ref 22, .null, .null, .null]), (xI 8), (xI 192), (xI 192), (xI 192), (xI 192)]) rfl ?_
  refine wLan 45 i66_44 rfl rfl ?_
  refine wLin 46 i66_45 rfl rfl ?_
  refine eNewA (n := 23) (N := 192) (c := (xI 192)) 3 1920 2 1728 i66_46 (by decide) (by decide) rfl rfl rfl rfl ?_
  refine tHeap (h' := [c0, c1, c2, c3, c4, c5, c6, c7, c8, c9, c10, c11, c12, c13, c14, c15, c16, .inr (4, [.ref 18, .ref 19, .ref 20, .ref 21, .ref 22, .null, .null, .null]), (xI 8), (xI 192), (xI 192), (xI 192), (xI 192), (xI 192)]) rfl ?_
  refine wPut 51 i66_48 p66_27 rfl (by decide) rfl rfl rfl ?_
  refine tHeap (h' := [c0, c1, c2, c3, c4, c5, c6, c7, c8, c9, c10, c11, c12, c13, c14, c15, c16, .inr (4, [.ref 18, .ref 19, .ref 20, .ref 21, .ref 22, .ref 23, .null, .null]), (xI 8), (xI 192), (xI 192), (xI 192), (xI 192), (xI 192)]) rfl ?_
  refine wLan 52 i66_51 rfl rfl ?_
  refine wLin 53 i66_52 rfl rfl ?_
  refine eNewA (n := 24) (N := 192) (c := (xI 192)) 2 1728 1 1536 i66_53 (by decide) (by decide) rfl rfl rfl rfl ?_
  refine tHeap (h' := [c0, c1, c2, c3, c4, c5, c6, c7, c8, c9, c10, c11, c12, c13, c14, c15, c16, .inr (4, [.ref 18, .ref 19, .ref 20, .ref 21, .ref 22, .ref 23, .null, .null]), (xI 8), (xI 192), (xI 192), (xI 192), (xI 192), (xI 192), (xI 192)]) rfl ?_
  refine wPut 58 i66_55 p66_30 rfl (by decide) rfl rfl rfl ?_
  refine tHeap (h' := [c0, c1, c2, c3, c4, c5, c6, c7, c8, c9, c10, c11, c12, c13, c14, c15, c16, .inr (4, [.ref 18, .ref 19, .ref 20, .ref 21, .ref 22, .ref 23, .ref 24, .null]), (xI 8), (xI 192), (xI 192), (xI 192), (xI 192), (xI 192), (xI 192)]) rfl ?_
  refine wLan 59 i66_58 rfl rfl ?_
  refine wLin 60 i66_59 rfl rfl ?_
  refine wKb 62 8 i66_60 (by decide) rfl ?_
  refine wA 63 i66_62 rfl rfl rfl ?_
  refine tTop (v := 1536) (by decide) ?_
  refine eNewA (n := 25) (N := 1536) (c := (xJ 1536)) 1 1536 0 0 i66_63 (by decide) (by decide) rfl rfl rfl rfl ?_
  refine tHeap (h' := [c0, c1, c2, c3, c4, c5, c6, c7, c8, c9, c10, c11, c12, c13, c14, c15, c16, .inr (4, [.ref 18, .ref 19, .ref 20, .ref 21, .ref 22, .ref 23, .ref 24, .null]), (xI 8), (xI 192), (xI 192), (xI 192), (xI 192), (xI 192), (xI 192), (xJ 1536)]) rfl ?_
  refine wPut 68 i66_65 p66_33 rfl (by decide) rfl rfl rfl ?_
  refine tHeap (h' := [c0, c1, c2, c3, c4, c5, c6, c7, c8, c9, c10, c11, c12, c13, c14, c15, c16, .inr (4, [.ref 18, .ref 19, .ref 20, .ref 21, .ref 22, .ref 23, .ref 24, .ref 25]), (xI 8), (xI 192), (xI 192), (xI 192), (xI 192), (xI 192), (xI 192), (xJ 1536)]) rfl ?_
  refine wR0 i66_68 m66 ?_
  exact rfl
set_option maxHeartbeats 4000000 in
set_option maxRecDepth 100000 in
theorem k_Told_a {sc : xS} {d : Nat} (c0 c1 c2 c3 c4 c5 c6 c7 c8 c9 c10 c11 c12 c13 c14 c15 c16 c17 c18 c19 c20 c21 c22 c23 c24 c25 : xE) : xT xg sc (d + 1) 73 0 [(0, .ref 26), (1, .int 192)] [] [c0, c1, c2, c3, c4, c5, c6, c7, c8, c9, c10, c11, c12, c13, c14, c15, c16, c17, c18, c19, c20, c21, c22, c23, c24, c25, .inr (5, [.null, .null, .null, .null, .null, .null, .null, .null, .null, .null, .null, .int 0])] (fun r => r = (none, [c0, c1, c2, c3, c4, c5, c6, c7, c8, c9, c10, c11, c12, c13, c14, c15, c16, c17, c18, c19, c20, c21, c22, c23, c24, c25, .inr (5, [.ref 27, .ref 28, .ref 29, .ref 30, .ref 31, .ref 32, .ref 33, .ref 34, .ref 35, .ref 36, .ref 37, .int 0]), (xI 192), (xI 192), .inl (.int, 192, .inl xOne), (xZ 192), (xI 192), (xI 192), (xB 12288), (xJ 12288), (xB 12288), (xZ 192), (xI 192)], 11, 38400)) := by
  refine wLan 1 i73_0 rfl rfl ?_
  refine tObj i73_1 l73_3 (by decide) ?_
  refine wLan 5 i73_4 rfl rfl ?_
  refine wK 6 0 i73_5 (by decide) rfl ?_
  refine wPut 9 i73_6 p73_9 rfl (by decide) rfl rfl rfl ?_
  refine tHeap (h' := [c0, c1, c2, c3, c4, c5, c6, c7, c8, c9, c10, c11, c12, c13, c14, c15, c16, c17, c18, c19, c20, c21, c22, c23, c24, c25, .inr (5, [.null, .null, .null, .null, .null, .null, .null, .null, .null, .null, .null, .int 0])]) rfl ?_
  refine wLan 10 i73_9 rfl rfl ?_
  refine wLin 11 i73_10 rfl rfl ?_
  refine eNewA (n := 27) (N := 192) (c := (xI 192)) 11 38400 10 38208 i73_11 (by decide) (by decide) rfl rfl rfl rfl ?_
  refine tHeap (h' := [c0, c1, c2, c3, c4, c5, c6, c7, c8, c9, c10, c11, c12, c13, c14, c15, c16, c17, c18, c19, c20, c21, c22, c23, c24, c25, .inr (5, [.null, .null, .null, .null, .null, .null, .null, .null, .null, .null, .null, .int 0]), (xI 192)]) rfl ?_
  refine wPut 16 i73_13 p73_15 rfl (by decide) rfl rfl rfl ?_
  refine tHeap (h' := [c0, c1, c2, c3, c4, c5, c6, c7, c8, c9, c10, c11, c12, c13, c14, c15, c16, c17, c18, c19, c20, c21, c22, c23, c24, c25, .inr (5, [.ref 27, .null, .null, .null, .null, .null, .null, .null, .null, .null, .null, .int 0]), (xI 192)]) rfl ?_
  refine wLan 17 i73_16 rfl rfl ?_
  refine wLin 18 i73_17 rfl rfl ?_
  refine eNewA (n := 28) (N := 192) (c := (xI 192)) 10 38208 9 38016 i73_18 (by decide) (by decide) rfl rfl rfl rfl ?_
  refine tHeap (h' := [c0, c1, c2, c3, c4, c5, c6, c7, c8, c9, c10, c11, c12, c13, c14, c15, c16, c17, c18, c19, c20, c21, c22, c23, c24, c25, .inr (5, [.ref 27, .null, .null, .null, .null, .null, .null, .null, .null, .null, .null, .int 0]), (xI 192), (xI 192)]) rfl ?_
  refine wPut 23 i73_20 p73_19 rfl (by decide) rfl rfl rfl ?_
  refine tHeap (h' := [c0, c1, c2, c3, c4, c5, c6, c7, c8, c9, c10, c11, c12, c13, c14, c15, c16, c17, c18, c19, c20, c21, c22, c23, c24, c25, .inr (5, [.ref 27, .ref 28, .null, .null, .null, .null, .null, .null, .null, .null, .null, .int 0]), (xI 192), (xI 192)]) rfl ?_
  refine wLan 24 i73_23 rfl rfl ?_
  refine wLin 25 i73_24 rfl rfl ?_
  refine eNewA (n := 29) (N := 192) (c := (xI 192)) 9 38016 8 37824 i73_25 (by decide) (by decide) rfl rfl rfl rfl ?_
  refine tHeap (h' := [c0, c1, c2, c3, c4, c5, c6, c7, c8, c9, c10, c11, c12, c13, c14, c15, c16, c17, c18, c19, c20, c21, c22, c23, c24, c25, .inr (5, [.ref 27, .ref 28, .null, .null, .null, .null, .null, .null, .null, .null, .null, .int 0]), (xI 192), (xI 192), (xI 192)]) rfl ?_
  refine wPut 30 i73_27 p73_22 rfl (by decide) rfl rfl rfl ?_
  refine tHeap (h' := [c0, c1, c2, c3, c4, c5, c6, c7, c8, c9, c10, c11, c12, c13, c14, c15, c16, c17, c18, c19, c20, c21, c22, c23, c24, c25, .inr (5, [.ref 27, .ref 28, .ref 29, .null, .null, .null, .null, .null, .null, .null, .null, .int 0]), (xI 192), (xI 192), (xI 192)]) rfl ?_
  refine wLan 31 i73_30 rfl rfl ?_
  refine wLin 32 i73_31 rfl rfl ?_
  refine eNewA (n := 30) (N := 192) (c := (xZ 192)) 8 37824 7 37632 i73_32 (by decide) (by decide) rfl rfl rfl rfl ?_
  refine tHeap (h' := [c0, c1, c2, c3, c4, c5, c6, c7, c8, c9, c10, c11, c12, c13, c14, c15, c16, c17, c18, c19, c20, c21, c22, c23, c24, c25, .inr (5, [.ref 27, .ref 28, .ref 29, .null, .null, .null, .null, .null, .null, .null, .null, .int 0]), (xI 192), (xI 192), (xI 192), (xZ 192)]) rfl ?_
  refine wPut 37 i73_34 p73_25 rfl (by decide) rfl rfl rfl ?_
  refine tHeap (h' := [c0, c1, c2, c3, c4, c5, c6, c7, c8, c9, c10, c11, c12, c13, c14, c15, c16, c17, c18, c19, c20, c21, c22, c23, c24, c25, .inr (5, [.ref 27, .ref 28, .ref 29, .ref 30, .null, .null, .null, .null, .null, .null, .null, .int 0]), (xI 192), (xI 192), (xI 192), (xZ 192)]) rfl ?_
  refine wLan 38 i73_37 rfl rfl ?_
  refine wLin 39 i73_38 rfl rfl ?_
  refine eNewA (n := 31) (N := 192) (c := (xI 192)) 7 37632 6 37440 i73_39 (by decide) (by decide) rfl rfl rfl rfl ?_
  refine tHeap (h' := [c0, c1, c2, c3, c4, c5, c6, c7, c8, c9, c10, c11, c12, c13, c14, c15, c16, c17, c18, c19, c20, c21, c22, c23, c24, c25, .inr (5, [.ref 27, .ref 28, .ref 29, .ref 30, .null, .null, .null, .null, .null, .null, .null, .int 0]), (xI 192), (xI 192), (xI 192), (xZ 192), (xI 192)]) rfl ?_
  refine wPut 44 i73_41 p73_29 rfl (by decide) rfl rfl rfl ?_
  refine tHeap (h' := [c0, c1, c2, c3, c4, c5, c6, c7, c8, c9, c10, c11, c12, c13, c14, c15, c16, c17, c18, c19, c20, c21, c22, c23, c24, c25, .inr (5, [.ref 27, .ref 28, .ref 29, .ref 30, .ref 31, .null, .null, .null, .null, .null, .null, .int 0]), (xI 192), (xI 192), (xI 192), (xZ 192), (xI 192)]) rfl ?_
  refine wLan 45 i73_44 rfl rfl ?_
  refine wLin 46 i73_45 rfl rfl ?_
  refine eNewA (n := 32) (N := 192) (c := (xI 192)) 6 37440 5 37248 i73_46 (by decide) (by decide) rfl rfl rfl rfl ?_
  refine tHeap (h' := [c0, c1, c2, c3, c4, c5, c6, c7, c8, c9, c10, c11, c12, c13, c14, c15, c16, c17, c18, c19, c20, c21, c22, c23, c24, c25, .inr (5, [.ref 27, .ref 28, .ref 29, .ref 30, .ref 31, .null, .null, .null, .null, .null, .null, .int 0]), (xI 192), (xI 192), (xI 192), (xZ 192), (xI 192), (xI 192)]) rfl ?_
  refine wPut 51 i73_48 p73_32 rfl (by decide) rfl rfl rfl ?_
  refine tHeap (h' := [c0, c1, c2, c3, c4, c5, c6, c7, c8, c9, c10, c11, c12, c13, c14, c15, c16, c17, c18, c19, c20, c21, c22, c23, c24, c25, .inr (5, [.ref 27, .ref 28, .ref 29, .ref 30, .ref 31, .ref 32, .null, .null, .null, .null, .null, .int 0]), (xI 192), (xI 192), (xI 192), (xZ 192), (xI 192), (xI 192)]) rfl ?_
  refine wLan 52 i73_51 rfl rfl ?_
  refine wLin 53 i73_52 rfl rfl ?_
  refine wKb 55 64 i73_53 (by decide) rfl ?_
  refine wA 56 i73_55 rfl rfl rfl ?_
  refine tTop (v := 12288) (by decide) ?_
  refine eNewA (n := 33) (N := 12288) (c := (xB 12288)) 5 37248 4 24960 i73_56 (by decide) (by decide) rfl rfl rfl rfl ?_
  refine tHeap (h' := [c0, c1, c2, c3, c4, c5, c6, c7, c8, c9, c10, c11, c12, c13, c14, c15, c16, c17, c18, c19, c20, c21, c22, c23, c24, c25, .inr (5, [.ref 27, .ref 28, .ref 29, .ref 30, .ref 31, .ref 32, .null, .null, .null, .null, .null, .int 0]), (xI 192), (xI 192), (xI 192), (xZ 192), (xI 192), (xI 192), (xB 12288)]) rfl ?_
  refine wPut 61 i73_58 p73_35 rfl (by decide) rfl rfl rfl ?_
  refine tHeap (h' := [c0, c1, c2, c3, c4, c5, c6, c7, c8, c9, c10, c11, c12, c13, c14, c15, c16, c17, c18, c19, c20, c21, c22, c23, c24, c25, .inr (5, [.ref 27, .ref 28, .ref 29, .ref 30, .ref 31, .ref 32, .ref 33, .null, .null, .null, .null, .int 0]), (xI 192), (xI 192), (xI 192), (xZ 192), (xI 192), (xI 192), (xB 12288)]) rfl ?_
  refine wLan 62 i73_61 rfl rfl ?_
  refine wLin 63 i73_62 rfl rfl ?_
  refine wKb 65 64 i73_63 (by decide) rfl ?_
  refine wA 66 i73_65 rfl rfl rfl ?_
  refine tTop (v := 12288) (by decide) ?_
  refine eNewA (n := 34) (N := 12288) (c := (xJ 12288)) 4 24960 3 12672 i73_66 (by decide) (by decide) rfl rfl rfl rfl ?_
  refine tHeap (h' := [c0, c1, c2, c3, c4, c5, c6, c7, c8, c9, c10, c11, c12, c13, c14, c15, c16, c17, c18, c19, c20, c21, c22, c23, c24, c25, .inr (5, [.ref 27, .ref 28, .ref 29, .ref 30, .ref 31, .ref 32, .ref 33, .null, .null, .null, .null, .int 0]), (xI 192), (xI 192), (xI 192), (xZ 192), (xI 192), (xI 192), (xB 12288), (xJ 12288)]) rfl ?_
  refine wPut 71 i73_68 p73_39 rfl (by decide) rfl rfl rfl ?_
  refine tHeap (h' := [c0, c1, c2, c3, c4, c5, c6, c7, c8, c9, c10, c11, c12, c13, c14, c15, c16, c17, c18, c19, c20, c21, c22, c23, c24, c25, .inr (5, [.ref 27, .ref 28, .ref 29, .ref 30, .ref 31, .ref 32, .ref 33, .ref 34, .null, .null, .null, .int 0]), (xI 192), (xI 192), (xI 192), (xZ 192), (xI 192), (xI 192), (xB 12288), (xJ 12288)]) rfl ?_
  refine wLan 72 i73_71 rfl rfl ?_
  refine wLin 73 i73_72 rfl rfl ?_
  refine wKb 75 64 i73_73 (by decide) rfl ?_
  refine wA 76 i73_75 rfl rfl rfl ?_
  refine tTop (v := 12288) (by decide) ?_
  refine eNewA (n := 35) (N := 12288) (c := (xB 12288)) 3 12672 2 384 i73_76 (by decide) (by decide) rfl rfl rfl rfl ?_
  refine tHeap (h' := [c0, c1, c2, c3, c4, c5, c6, c7, c8, c9, c10, c11, c12, c13, c14, c15, c16, c17, c18, c19, c20, c21, c22, c23, c24, c25, .inr (5, [.ref 27, .ref 28, .ref 29, .ref 30, .ref 31, .ref 32, .ref 33, .ref 34, .null, .null, .null, .int 0]), (xI 192), (xI 192), (xI 192), (xZ 192), (xI 192), (xI 192), (xB 12288), (xJ 12288), (xB 12288)]) rfl ?_
  refine wPut 81 i73_78 p73_43 rfl (by decide) rfl rfl rfl ?_
  refine tHeap (h' := [c0, c1, c2, c3, c4, c5, c6, c7, c8, c9, c10, c11, c12, c13, c14, c15, c16, c17, c18, c19, c20, c21, c22, c23, c24, c25, .inr (5, [.ref 27, .ref 28, .ref 29, .ref 30, .ref 31, .ref 32, .ref 33, .ref 34, .ref 35, .null, .null, .int 0]), (xI 192), (xI 192), (xI 192), (xZ 192), (xI 192), (xI 192), (xB 12288), (xJ 12288), (xB 12288)]) rfl ?_
  refine wLan 82 i73_81 rfl rfl ?_
  refine wLin 83 i73_82 rfl rfl ?_
  refine eNewA (n := 36) (N := 192) (c := (xZ 192)) 2 384 1 192 i73_83 (by decide) (by decide) rfl rfl rfl rfl ?_
  refine tHeap (h' := [c0, c1, c2, c3, c4, c5, c6, c7, c8, c9, c10, c11, c12, c13, c14, c15, c16, c17, c18, c19, c20, c21, c22, c23, c24, c25, .inr (5, [.ref 27, .ref 28, .ref 29, .ref 30, .ref 31, .ref 32, .ref 33, .ref 34, .ref 35, .null, .null, .int 0]), (xI 192), (xI 192), (xI 192), (xZ 192), (xI 192), (xI 192), (xB 12288), (xJ 12288), (xB 12288), (xZ 192)]) rfl ?_
  refine wPut 88 i73_85 p73_46 rfl (by decide) rfl rfl rfl ?_
  refine tHeap (h' := [c0, c1, c2, c3, c4, c5, c6, c7, c8, c9, c10, c11, c12, c13, c14, c15, c16, c17, c18, c19, c20, c21, c22, c23, c24, c25, .inr (5, [.ref 27, .ref 28, .ref 29, .ref 30, .ref 31, .ref 32, .ref 33, .ref 34, .ref 35, .ref 36, .null, .int 0]), (xI 192), (xI 192), (xI 192), (xZ 192), (xI 192), (xI 192), (xB 12288), (xJ 12288), (xB 12288), (xZ 192)]) rfl ?_
  refine wLan 89 i73_88 rfl rfl ?_
  refine wLin 90 i73_89 rfl rfl ?_
  refine eNewA (n := 37) (N := 192) (c := (xI 192)) 1 192 0 0 i73_90 (by decide) (by decide) rfl rfl rfl rfl ?_
  refine tHeap (h' := [c0, c1, c2, c3, c4, c5, c6, c7, c8, c9, c10, c11, c12, c13, c14, c15, c16, c17, c18, c19, c20, c21, c22, c23, c24, c25, .inr (5, [.ref 27, .ref 28, .ref 29, .ref 30, .ref 31, .ref 32, .ref 33, .ref 34, .ref 35, .ref 36, .null, .int 0]), (xI 192), (xI 192), (xI 192), (xZ 192), (xI 192), (xI 192), (xB 12288), (xJ 12288), (xB 12288), (xZ 192), (xI 192)]) rfl ?_
  refine wPut 95 i73_92 p73_49 rfl (by decide) rfl rfl rfl ?_
  refine tHeap (h' := [c0, c1, c2, c3, c4, c5, c6, c7, c8, c9, c10, c11, c12, c13, c14, c15, c16, c17, c18, c19, c20, c21, c22, c23, c24, c25, .inr (5, [.ref 27, .ref 28, .ref 29, .ref 30, .ref 31, .ref 32, .ref 33, .ref 34, .ref 35, .ref 36, .ref 37, .int 0]), (xI 192), (xI 192), (xI 192), (xZ 192), (xI 192), (xI 192), (xB 12288), (xJ 12288), (xB 12288), (xZ 192), (xI 192)]) rfl ?_
  refine wK 96 0 i73_95 (by decide) rfl ?_
  refine wSin 97 [(2, .int 0), (0, .ref 26), (1, .int 192)] i73_96 m73 (by decide) rfl rfl ?_
  refine told_fill 26 29 _ rfl (by decide) 192 0 0 _ (fun _ => 0) rfl rfl rfl rfl (fun j hj => absurd hj (Nat.not_lt_zero j)) (fun _ _ => rfl) ?_
  refine tHeap (h' := [c0, c1, c2, c3, c4, c5, c6, c7, c8, c9, c10, c11, c12, c13, c14, c15, c16, c17, c18, c19, c20, c21, c22, c23, c24, c25, .inr (5, [.ref 27, .ref 28, .ref 29, .ref 30, .ref 31, .ref 32, .ref 33, .ref 34, .ref 35, .ref 36, .ref 37, .int 0]), (xI 192), (xI 192), .inl (.int, 192, .inl xOne), (xZ 192), (xI 192), (xI 192), (xB 12288), (xJ 12288), (xB 12288), (xZ 192), (xI 192)]) rfl ?_
  refine wR0 i73_115 m73 ?_
  exact rfl
set_option maxHeartbeats 4000000 in
set_option maxRecDepth 100000 in
theorem k_Told_b {sc : xS} {d : Nat} (c0 c1 c2 c3 c4 c5 c6 c7 c8 c9 c10 c11 c12 c13 c14 c15 c16 c17 c18 c19 c20 c21 c22 c23 c24 c25 c26 c27 c28 c29 c30 c31 c32 c33 c34 c35 c36 c37 : xE) : xT xg sc (d + 1) 73 0 [(0, .ref 38), (1, .int 192)] [] [c0, c1, c2, c3, c4, c5, c6, c7, c8, c9, c10, c11, c12, c13, c14, c15, c16, c17, c18, c19, c20, c21, c22, c23, c24, c25, c26, c27, c28, c29, c30, c31, c32, c33, c34, c35, c36, c37, .inr (5, [.null, .null, .null, .null, .null, .null, .null, .null, .null, .null, .null, .int 0])] (fun r => r = (none, [c0, c1, c2, c3, c4, c5, c6, c7, c8, c9, c10, c11, c12, c13, c14, c15, c16, c17, c18, c19, c20, c21, c22, c23, c24, c25, c26, c27, c28, c29, c30, c31, c32, c33, c34, c35, c36, c37, .inr (5, [.ref 39, .ref 40, .ref 41, .ref 42, .ref 43, .ref 44, .ref 45, .ref 46, .ref 47, .ref 48, .ref 49, .int 0]), (xI 192), (xI 192), .inl (.int, 192, .inl xOne), (xZ 192), (xI 192), (xI 192), (xB 12288), (xJ 12288), (xB 12288), (xZ 192), (xI 192)], 11, 38400)) := by
  refine wLan 1 i73_0 rfl rfl ?_
  refine tObj i73_1 l73_3 (by decide) ?_
  refine wLan 5 i73_4 rfl rfl ?_
  refine wK 6 0 i73_5 (by decide) rfl ?_
  refine wPut 9 i73_6 p73_9 rfl (by decide) rfl rfl rfl ?_
  refine tHeap (h' := [c0, c1, c2, c3, c4, c5, c6, c7, c8, c9, c10, c11, c12, c13, c14, c15, c16, c17, c18, c19, c20, c21, c22, c23, c24, c25, c26, c27, c28, c29, c30, c31, c32, c33, c34, c35, c36, c37, .inr (5, [.null, .null, .null, .null, .null, .null, .null, .null, .null, .null, .null, .int 0])]) rfl ?_
  refine wLan 10 i73_9 rfl rfl ?_
  refine wLin 11 i73_10 rfl rfl ?_
  refine eNewA (n := 39) (N := 192) (c := (xI 192)) 11 38400 10 38208 i73_11 (by decide) (by decide) rfl rfl rfl rfl ?_
  refine tHeap (h' := [c0, c1, c2, c3, c4, c5, c6, c7, c8, c9, c10, c11, c12, c13, c14, c15, c16, c17, c18, c19, c20, c21, c22, c23, c24, c25, c26, c27, c28, c29, c30, c31, c32, c33, c34, c35, c36, c37, .inr (5, [.null, .null, .null, .null, .null, .null, .null, .null, .null, .null, .null, .int 0]), (xI 192)]) rfl ?_
  refine wPut 16 i73_13 p73_15 rfl (by decide) rfl rfl rfl ?_
  refine tHeap (h' := [c0, c1, c2, c3, c4, c5, c6, c7, c8, c9, c10, c11, c12, c13, c14, c15, c16, c17, c18, c19, c20, c21, c22, c23, c24, c25, c26, c27, c28, c29, c30, c31, c32, c33, c34, c35, c36, c37, .inr (5, [.ref 39, .null, .null, .null, .null, .null, .null, .null, .null, .null, .null, .int 0]), (xI 192)]) rfl ?_
  refine wLan 17 i73_16 rfl rfl ?_
  refine wLin 18 i73_17 rfl rfl ?_
  refine eNewA (n := 40) (N := 192) (c := (xI 192)) 10 38208 9 38016 i73_18 (by decide) (by decide) rfl rfl rfl rfl ?_
  refine tHeap (h' := [c0, c1, c2, c3, c4, c5, c6, c7, c8, c9, c10, c11, c12, c13, c14, c15, c16, c17, c18, c19, c20, c21, c22, c23, c24, c25, c26, c27, c28, c29, c30, c31, c32, c33, c34, c35, c36, c37, .inr (5, [.ref 39, .null, .null, .null, .null, .null, .null, .null, .null, .null, .null, .int 0]), (xI 192), (xI 192)]) rfl ?_
  refine wPut 23 i73_20 p73_19 rfl (by decide) rfl rfl rfl ?_
  refine tHeap (h' := [c0, c1, c2, c3, c4, c5, c6, c7, c8, c9, c10, c11, c12, c13, c14, c15, c16, c17, c18, c19, c20, c21, c22, c23, c24, c25, c26, c27, c28, c29, c30, c31, c32, c33, c34, c35, c36, c37, .inr (5, [.ref 39, .ref 40, .null, .null, .null, .null, .null, .null, .null, .null, .null, .int 0]), (xI 192), (xI 192)]) rfl ?_
  refine wLan 24 i73_23 rfl rfl ?_
  refine wLin 25 i73_24 rfl rfl ?_
  refine eNewA (n := 41) (N := 192) (c := (xI 192)) 9 38016 8 37824 i73_25 (by decide) (by decide) rfl rfl rfl rfl ?_
  refine tHeap (h' := [c0, c1, c2, c3, c4, c5, c6, c7, c8, c9, c10, c11, c12, c13, c14, c15, c16, c17, c18, c19, c20, c21, c22, c23, c24, c25, c26, c27, c28, c29, c30, c31, c32, c33, c34, c35, c36, c37, .inr (5, [.ref 39, .ref 40, .null, .null, .null, .null, .null, .null, .null, .null, .null, .int 0]), (xI 192), (xI 192), (xI 192)]) rfl ?_
  refine wPut 30 i73_27 p73_22 rfl (by decide) rfl rfl rfl ?_
  refine tHeap (h' := [c0, c1, c2, c3, c4, c5, c6, c7, c8, c9, c10, c11, c12, c13, c14, c15, c16, c17, c18, c19, c20, c21, c22, c23, c24, c25, c26, c27, c28, c29, c30, c31, c32, c33, c34, c35, c36, c37, .inr (5, [.ref 39, .ref 40, .ref 41, .null, .null, .null, .null, .null, .null, .null, .null, .int 0]), (xI 192), (xI 192), (xI 192)]) rfl ?_
  refine wLan 31 i73_30 rfl rfl ?_
  refine wLin 32 i73_31 rfl rfl ?_
  refine eNewA (n := 42) (N := 192) (c := (xZ 192)) 8 37824 7 37632 i73_32 (by decide) (by decide) rfl rfl rfl rfl ?_
  refine tHeap (h' := [c0, c1, c2, c3, c4, c5, c6, c7, c8, c9, c10, c11, c12, c13, c14, c15, c16, c17, c18, c19, c20, c21, c22, c23, c24, c25, c26, c27, c28, c29, c30, c31, c32, c33, c34, c35, c36, c37, .inr (5, [.ref 39, .ref 40, .ref 41, .null, .null, .null, .null, .null, .null, .null, .null, .int 0]), (xI 192), (xI 192), (xI 192), (xZ 192)]) rfl ?_
  refine wPut 37 i73_34 p73_25 rfl (by decide) rfl rfl rfl ?_
  refine tHeap (h' := [c0, c1, c2, c3, c4, c5, c6, c7, c8, c9, c10, c11, c12, c13, c14, c15, c16, c17, c18, c19, c20, c21, c22, c23, c24, c25, c26, c27, c28, c29, c30, c31, c32, c33, c34, c35, c36, c37, .inr (5, [.ref 39, .ref 40, .ref 41, .ref 42, .null, .null, .null, .null, .null, .null, .null, .int 0]), (xI 192), (xI 192), (xI 192), (xZ 192)]) rfl ?_
  refine wLan 38 i73_37 rfl rfl ?_
  refine wLin 39 i73_38 rfl rfl ?_
  refine eNewA (n := 43) (N := 192) (c := (xI 192)) 7 37632 6 37440 i73_39 (by decide) (by decide) rfl rfl rfl rfl ?_
  refine tHeap (h' := [c0, c1, c2, c3, c4, c5, c6, c7, c8, c9, c10, c11, c12, c13, c14, c15, c16, c17, c18, c19, c20, c21, c22, c23, c24, c25, c26, c27, c28, c29, c30, c31, c32, c33, c34, c35, c36, c37, .inr (5, [.ref 39, .ref 40, .ref 41, .ref 42, .null, .null, .null, .null, .null, .null, .null, .int 0]), (xI 192), (xI 192), (xI 192), (xZ 192), (xI 192)]) rfl ?_
  refine wPut 44 i73_41 p73_29 rfl (by decide) rfl rfl rfl ?_
  refine tHeap (h' := [c0, c1, c2, c3, c4, c5, c6, c7, c8, c9, c10, c11, c12, c13, c14, c15, c16, c17, c18, c19, c20, c21, c22, c23, c24, c25, c26, c27, c28, c29, c30, c31, c32, c33, c34, c35, c36, c37, .inr (5, [.ref 39, .ref 40, .ref 41, .ref 42, .ref 43, .null, .null, .null, .null, .null, .null, .int 0]), (xI 192), (xI 192), (xI 192), (xZ 192), (xI 192)]) rfl ?_
  refine wLan 45 i73_44 rfl rfl ?_
  refine wLin 46 i73_45 rfl rfl ?_
  refine eNewA (n := 44) (N := 192) (c := (xI 192)) 6 37440 5 37248 i73_46 (by decide) (by decide) rfl rfl rfl rfl ?_
  refine tHeap (h' := [c0, c1, c2, c3, c4, c5, c6, c7, c8, c9, c10, c11, c12, c13, c14, c15, c16, c17, c18, c19, c20, c21, c22, c23, c24, c25, c26, c27, c28, c29, c30, c31, c32, c33, c34, c35, c36, c37, .inr (5, [.ref 39, .ref 40, .ref 41, .ref 42, .ref 43, .null, .null, .null, .null, .null, .null, .int 0]), (xI 192), (xI 192), (xI 192), (xZ 192), (xI 192), (xI 192)]) rfl ?_
  refine wPut 51 i73_48 p73_32 rfl (by decide) rfl rfl rfl ?_
  refine tHeap (h' := [c0, c1, c2, c3, c4, c5, c6, c7, c8, c9, c10, c11, c12, c13, c14, c15, c16, c17, c18, c19, c20, c21, c22, c23, c24, c25, c26, c27, c28, c29, c30, c31, c32, c33, c34, c35, c36, c37, .inr (5, [.ref 39, .ref 40, .ref 41, .ref 42, .ref 43, .ref 44, .null, .null, .null, .null, .null, .int 0]), (xI 192), (xI 192), (xI 192), (xZ 192), (xI 192), (xI 192)]) rfl ?_
  refine wLan 52 i73_51 rfl rfl ?_
  refine wLin 53 i73_52 rfl rfl ?_
  refine wKb 55 64 i73_53 (by decide) rfl ?_
  refine wA 56 i73_55 rfl rfl rfl ?_
  refine tTop (v := 12288) (by decide) ?_
  refine eNewA (n := 45) (N := 12288) (c := (xB 12288)) 5 37248 4 24960 i73_56 (by decide) (by decide) rfl rfl rfl rfl ?_
  refine tHeap (h' := [c0, c1, c2, c3, c4, c5, c6, c7, c8, c9, c10, c11, c12, c13, c14, c15, c16, c17, c18, c19, c20, c21, c22, c23, c24, c25, c26, c27, c28, c29, c30, c31, c32, c33, c34, c35, c36, c37, .inr (5, [.ref 39, .ref 40, .ref 41, .ref 42, .ref 43, .ref 44, .null, .null, .null, .null, .null, .int 0]), (xI 192), (xI 192), (xI 192), (xZ 192), (xI 192), (xI 192), (xB 12288)]) rfl ?_
  refine wPut 61 i73_58 p73_35 rfl (by decide) rfl rfl rfl ?_
  refine tHeap (h' := [c0, c1, c2, c3, c4, c5, c6, c7, c8, c9, c10, c11, c12, c13, c14, c15, c16, c17, c18, c19, c20, c21, c22, c23, c24, c25, c26, c27, c28, c29, c30, c31, c32, c33, c34, c35, c36, c37, .inr (5, [.ref 39, .ref 40, .ref 41, .ref 42, .ref 43, .ref 44, .ref 45, .null, .null, .null, .null, .int 0]), (xI 192), (xI 192), (xI 192), (xZ 192), (xI 192), (xI 192), (xB 12288)]) rfl ?_
  refine wLan 62 i73_61 rfl rfl ?_
  refine wLin 63 i73_62 rfl rfl ?_
  refine wKb 65 64 i73_63 (by decide) rfl ?_
  refine wA 66 i73_65 rfl rfl rfl ?_
  refine tTop (v := 12288) (by decide) ?_
  refine eNewA (n := 46) (N := 12288) (c := (xJ 12288)) 4 24960 3 12672 i73_66 (by decide) (by decide) rfl rfl rfl rfl ?_
  refine tHeap (h' := [c0, c1, c2, c3, c4, c5, c6, c7, c8, c9, c10, c11, c12, c13, c14, c15, c16, c17, c18, c19, c20, c21, c22, c23, c24, c25, c26, c27, c28, c29, c30, c31, c32, c33, c34, c35, c36, c37, .inr (5, [.ref 39, .ref 40, .ref 41, .ref 42, .ref 43, .ref 44, .ref 45, .null, .null, .null, .null, .int 0]), (xI 192), (xI 192), (xI 192), (xZ 192), (xI 192), (xI 192), (xB 12288), (xJ 12288)]) rfl ?_
  refine wPut 71 i73_68 p73_39 rfl (by decide) rfl rfl rfl ?_
  refine tHeap (h' := [c0, c1, c2, c3, c4, c5, c6, c7, c8, c9, c10, c11, c12, c13, c14, c15, c16, c17, c18, c19, c20, c21, c22, c23, c24, c25, c26, c27, c28, c29, c30, c31, c32, c33, c34, c35, c36, c37, .inr (5, [.ref 39, .ref 40, .ref 41, .ref 42, .ref 43, .ref 44, .ref 45, .ref 46, .null, .null, .null, .int 0]), (xI 192), (xI 192), (xI 192), (xZ 192), (xI 192), (xI 192), (xB 12288), (xJ 12288)]) rfl ?_
  refine wLan 72 i73_71 rfl rfl ?_
  refine wLin 73 i73_72 rfl rfl ?_
  refine wKb 75 64 i73_73 (by decide) rfl ?_
  refine wA 76 i73_75 rfl rfl rfl ?_
  refine tTop (v := 12288) (by decide) ?_
  refine eNewA (n := 47) (N := 12288) (c := (xB 12288)) 3 12672 2 384 i73_76 (by decide) (by decide) rfl rfl rfl rfl ?_
  refine tHeap (h' := [c0, c1, c2, c3, c4, c5, c6, c7, c8, c9, c10, c11, c12, c13, c14, c15, c16, c17, c18, c19, c20, c21, c22, c23, c24, c25, c26, c27, c28, c29, c30, c31, c32, c33, c34, c35, c36, c37, .inr (5, [.ref 39, .ref 40, .ref 41, .ref 42, .ref 43, .ref 44, .ref 45, .ref 46, .null, .null, .null, .int 0]), (xI 192), (xI 192), (xI 192), (xZ 192), (xI 192), (xI 192), (xB 12288), (xJ 12288), (xB 12288)]) rfl ?_
  refine wPut 81 i73_78 p73_43 rfl (by decide) rfl rfl rfl ?_
  refine tHeap (h' := [c0, c1, c2, c3, c4, c5, c6, c7, c8, c9, c10, c11, c12, c13, c14, c15, c16, c17, c18, c19, c20, c21, c22, c23, c24, c25, c26, c27, c28, c29, c30, c31, c32, c33, c34, c35, c36, c37, .inr (5, [.ref 39, .ref 40, .ref 41, .ref 42, .ref 43, .ref 44, .ref 45, .ref 46, .ref 47, .null, .null, .int 0]), (xI 192), (xI 192), (xI 192), (xZ 192), (xI 192), (xI 192), (xB 12288), (xJ 12288), (xB 12288)]) rfl ?_
  refine wLan 82 i73_81 rfl rfl ?_
  refine wLin 83 i73_82 rfl rfl ?_
  refine eNewA (n := 48) (N := 192) (c := (xZ 192)) 2 384 1 192 i73_83 (by decide) (by decide) rfl rfl rfl rfl ?_
  refine tHeap (h' := [c0, c1, c2, c3, c4, c5, c6, c7, c8, c9, c10, c11, c12, c13, c14, c15, c16, c17, c18, c19, c20, c21, c22, c23, c24, c25, c26, c27, c28, c29, c30, c31, c32, c33, c34, c35, c36, c37, .inr (5, [.ref 39, .ref 40, .ref 41, .ref 42, .ref 43, .ref 44, .ref 45, .ref 46, .ref 47, .null, .null, .int 0]), (xI 192), (xI 192), (xI 192), (xZ 192), (xI 192), (xI 192), (xB 12288), (xJ 12288), (xB 12288), (xZ 192)]) rfl ?_
  refine wPut 88 i73_85 p73_46 rfl (by decide) rfl rfl rfl ?_
  refine tHeap (h' := [c0, c1, c2, c3, c4, c5, c6, c7, c8, c9, c10, c11, c12, c13, c14, c15, c16, c17, c18, c19, c20, c21, c22, c23, c24, c25, c26, c27, c28, c29, c30, c31, c32, c33, c34, c35, c36, c37, .inr (5, [.ref 39, .ref 40, .ref 41, .ref 42, .ref 43, .ref 44, .ref 45, .ref 46, .ref 47, .ref 48, .null, .int 0]), (xI 192), (xI 192), (xI 192), (xZ 192), (xI 192), (xI 192), (xB 12288), (xJ 12288), (xB 12288), (xZ 192)]) rfl ?_
  refine wLan 89 i73_88 rfl rfl ?_
  refine wLin 90 i73_89 rfl rfl ?_
  refine eNewA (n := 49) (N := 192) (c := (xI 192)) 1 192 0 0 i73_90 (by decide) (by decide) rfl rfl rfl rfl ?_
  refine tHeap (h' := [c0, c1, c2, c3, c4, c5, c6, c7, c8, c9, c10, c11, c12, c13, c14, c15, c16, c17, c18, c19, c20, c21, c22, c23, c24, c25, c26, c27, c28, c29, c30, c31, c32, c33, c34, c35, c36, c37, .inr (5, [.ref 39, .ref 40, .ref 41, .ref 42, .ref 43, .ref 44, .ref 45, .ref 46, .ref 47, .ref 48, .null, .int 0]), (xI 192), (xI 192), (xI 192), (xZ 192), (xI 192), (xI 192), (xB 12288), (xJ 12288), (xB 12288), (xZ 192), (xI 192)]) rfl ?_
  refine wPut 95 i73_92 p73_49 rfl (by decide) rfl rfl rfl ?_
  refine tHeap (h' := [c0, c1, c2, c3, c4, c5, c6, c7, c8, c9, c10, c11, c12, c13, c14, c15, c16, c17, c18, c19, c20, c21, c22, c23, c24, c25, c26, c27, c28, c29, c30, c31, c32, c33, c34, c35, c36, c37, .inr (5, [.ref 39, .ref 40, .ref 41, .ref 42, .ref 43, .ref 44, .ref 45, .ref 46, .ref 47, .ref 48, .ref 49, .int 0]), (xI 192), (xI 192), (xI 192), (xZ 192), (xI 192), (xI 192), (xB 12288), (xJ 12288), (xB 12288), (xZ 192), (xI 192)]) rfl ?_
  refine wK 96 0 i73_95 (by decide) rfl ?_
  refine wSin 97 [(2, .int 0), (0, .ref 38), (1, .int 192)] i73_96 m73 (by decide) rfl rfl ?_
  refine told_fill 38 41 _ rfl (by decide) 192 0 0 _ (fun _ => 0) rfl rfl rfl rfl (fun j hj => absurd hj (Nat.not_lt_zero j)) (fun _ _ => rfl) ?_
  refine tHeap (h' := [c0, c1, c2, c3, c4, c5, c6, c7, c8, c9, c10, c11, c12, c13, c14, c15, c16, c17, c18, c19, c20, c21, c22, c23, c24, c25, c26, c27, c28, c29, c30, c31, c32, c33, c34, c35, c36, c37, .inr (5, [.ref 39, .ref 40, .ref 41, .ref 42, .ref 43, .ref 44, .ref 45, .ref 46, .ref 47, .ref 48, .ref 49, .int 0]), (xI 192), (xI 192), .inl (.int, 192, .inl xOne), (xZ 192), (xI 192), (xI 192), (xB 12288), (xJ 12288), (xB 12288), (xZ 192), (xI 192)]) rfl ?_
  refine wR0 i73_115 m73 ?_
  exact rfl
set_option maxHeartbeats 4000000 in
set_option maxRecDepth 100000 in
theorem k_Teller {sc : xS} {d : Nat} (c0 c1 c2 c3 c4 c5 c6 c7 c8 c9 c10 c11 c12 c13 c14 c15 c16 c17 c18 c19 c20 c21 c22 c23 c24 c25 c26 c27 c28 c29 c30 c31 c32 c33 c34 c35 c36 c37 c38 c39 c40 c41 c42 c43 c44 c45 c46 c47 c48 c49 : xE) : xT xg sc (d + 1) 48 0 [(0, .ref 50), (1, .ref 17), (2, .ref 26)] [] [c0, c1, c2, c3, c4, c5, c6, c7, c8, c9, c10, c11, c12, c13, c14, c15, c16, c17, c18, c19, c20, c21, c22, c23, c24, c25, c26, c27, c28, c29, c30, c31, c32, c33, c34, c35, c36, c37, c38, c39, c40, c41, c42, c43, c44, c45, c46, c47, c48, c49, .inr (3, [.null, .null, .int 0, .int 0, .long 0])] (fun r => r = (none, [c0, c1, c2, c3, c4, c5, c6, c7, c8, c9, c10, c11, c12, c13, c14, c15, c16, c17, c18, c19, c20, c21, c22, c23, c24, c25, c26, c27, c28, c29, c30, c31, c32, c33, c34, c35, c36, c37, c38, c39, c40, c41, c42, c43, c44, c45, c46, c47, c48, c49, .inr (3, [.ref 17, .ref 26, .int 0, .int 0, .long 0])], 0, 0)) := by
  refine wLan 1 i48_0 rfl rfl ?_
  refine tObj i48_1 l48_3 (by decide) ?_
  refine wLan 5 i48_4 rfl rfl ?_
  refine wK 6 0 i48_5 (by decide) rfl ?_
  refine wPut 9 i48_6 p48_9 rfl (by decide) rfl rfl rfl ?_
  refine tHeap (h' := [c0, c1, c2, c3, c4, c5, c6, c7, c8, c9, c10, c11, c12, c13, c14, c15, c16, c17, c18, c19, c20, c21, c22, c23, c24, c25, c26, c27, c28, c29, c30, c31, c32, c33, c34, c35, c36, c37, c38, c39, c40, c41, c42, c43, c44, c45, c46, c47, c48, c49, .inr (3, [.null, .null, .int 0, .int 0, .long 0])]) rfl ?_
  refine wLan 10 i48_9 rfl rfl ?_
  refine wK 11 0 i48_10 (by decide) rfl ?_
  refine wPut 14 i48_11 p48_15 rfl (by decide) rfl rfl rfl ?_
  refine tHeap (h' := [c0, c1, c2, c3, c4, c5, c6, c7, c8, c9, c10, c11, c12, c13, c14, c15, c16, c17, c18, c19, c20, c21, c22, c23, c24, c25, c26, c27, c28, c29, c30, c31, c32, c33, c34, c35, c36, c37, c38, c39, c40, c41, c42, c43, c44, c45, c46, c47, c48, c49, .inr (3, [.null, .null, .int 0, .int 0, .long 0])]) rfl ?_
  refine wLan 15 i48_14 rfl rfl ?_
  refine wKl 16 0 i48_15 (by decide) rfl ?_
  refine wPut 19 i48_16 p48_18 rfl (by decide) rfl rfl rfl ?_
  refine tHeap (h' := [c0, c1, c2, c3, c4, c5, c6, c7, c8, c9, c10, c11, c12, c13, c14, c15, c16, c17, c18, c19, c20, c21, c22, c23, c24, c25, c26, c27, c28, c29, c30, c31, c32, c33, c34, c35, c36, c37, c38, c39, c40, c41, c42, c43, c44, c45, c46, c47, c48, c49, .inr (3, [.null, .null, .int 0, .int 0, .long 0])]) rfl ?_
  refine wLan 20 i48_19 rfl rfl ?_
  refine wLan 21 i48_20 rfl rfl ?_
  refine wPut 24 i48_21 p48_22 rfl (by decide) rfl rfl rfl ?_
  refine tHeap (h' := [c0, c1, c2, c3, c4, c5, c6, c7, c8, c9, c10, c11, c12, c13, c14, c15, c16, c17, c18, c19, c20, c21, c22, c23, c24, c25, c26, c27, c28, c29, c30, c31, c32, c33, c34, c35, c36, c37, c38, c39, c40, c41, c42, c43, c44, c45, c46, c47, c48, c49, .inr (3, [.ref 17, .null, .int 0, .int 0, .long 0])]) rfl ?_
  refine wLan 25 i48_24 rfl rfl ?_
  refine wLan 26 i48_25 rfl rfl ?_
  refine wPut 29 i48_26 p48_26 rfl (by decide) rfl rfl rfl ?_
  refine tHeap (h' := [c0, c1, c2, c3, c4, c5, c6, c7, c8, c9, c10, c11, c12, c13, c14, c15, c16, c17, c18, c19, c20, c21, c22, c23, c24, c25, c26, c27, c28, c29, c30, c31, c32, c33, c34, c35, c36, c37, c38, c39, c40, c41, c42, c43, c44, c45, c46, c47, c48, c49, .inr (3, [.ref 17, .ref 26, .int 0, .int 0, .long 0])]) rfl ?_
  refine wR0 i48_29 m48 ?_
  exact rfl
set_option maxHeartbeats 4000000 in
set_option maxRecDepth 100000 in
theorem k_Sheets {sc : xS} {d : Nat} (c0 c1 c2 c3 c4 c5 c6 c7 c8 c9 c10 c11 c12 c13 c14 c15 c16 c17 c18 c19 c20 c21 c22 c23 c24 c25 c26 c27 c28 c29 c30 c31 c32 c33 c34 c35 c36 c37 c38 c39 c40 c41 c42 c43 c44 c45 c46 c47 c48 c49 c50 : xE) : xT xg sc (d + 1) 32 0 [(0, .ref 51)] [] [c0, c1, c2, c3, c4, c5, c6, c7, c8, c9, c10, c11, c12, c13, c14, c15, c16, c17, c18, c19, c20, c21, c22, c23, c24, c25, c26, c27, c28, c29, c30, c31, c32, c33, c34, c35, c36, c37, c38, c39, c40, c41, c42, c43, c44, c45, c46, c47, c48, c49, c50, .inr (2, [.null, .null, .null])] (fun r => r = (none, [c0, c1, c2, c3, c4, c5, c6, c7, c8, c9, c10, c11, c12, c13, c14, c15, c16, c17, c18, c19, c20, c21, c22, c23, c24, c25, c26, c27, c28, c29, c30, c31, c32, c33, c34, c35, c36, c37, c38, c39, c40, c41, c42, c43, c44, c45, c46, c47, c48, c49, c50, .inr (2, [.ref 52, .ref 53, .ref 54]), .inl (.int, 4, .inl (upd (upd (upd (upd (fun _ => 0) 0 (-1)) 1 (-1)) 2 (-1)) 3 (-1))), (xI 4), (xJ 160)], 3, 168)) := by
  refine wLan 1 i32_0 rfl rfl ?_
  refine tObj i32_1 l32_3 (by decide) ?_
  refine wLan 5 i32_4 rfl rfl ?_
  refine wK 6 4 i32_5 (by decide) rfl ?_
  refine eNewA (n := 52) (N := 4) (c := (xI 4)) 3 168 2 164 i32_6 (by decide) (by decide) rfl rfl rfl rfl ?_
  refine tHeap (h' := [c0, c1, c2, c3, c4, c5, c6, c7, c8, c9, c10, c11, c12, c13, c14, c15, c16, c17, c18, c19, c20, c21, c22, c23, c24, c25, c26, c27, c28, c29, c30, c31, c32, c33, c34, c35, c36, c37, c38, c39, c40, c41, c42, c43, c44, c45, c46, c47, c48, c49, c50, .inr (2, [.null, .null, .null]), (xI 4)]) rfl ?_
  refine wPut 11 i32_8 p32_9 rfl (by decide) rfl rfl rfl ?_
  refine tHeap (h' := [c0, c1, c2, c3, c4, c5, c6, c7, c8, c9, c10, c11, c12, c13, c14, c15, c16, c17, c18, c19, c20, c21, c22, c23, c24, c25, c26, c27, c28, c29, c30, c31, c32, c33, c34, c35, c36, c37, c38, c39, c40, c41, c42, c43, c44, c45, c46, c47, c48, c49, c50, .inr (2, [.ref 52, .null, .null]), (xI 4)]) rfl ?_
  refine wLan 12 i32_11 rfl rfl ?_
  refine wK 13 4 i32_12 (by decide) rfl ?_
  refine eNewA (n := 53) (N := 4) (c := (xI 4)) 2 164 1 160 i32_13 (by decide) (by decide) rfl rfl rfl rfl ?_
  refine tHeap (h' := [c0, c1, c2, c3, c4, c5, c6, c7, c8, c9, c10, c11, c12, c13, c14, c15, c16, c17, c18, c19, c20, c21, c22, c23, c24, c25, c26, c27, c28, c29, c30, c31, c32, c33, c34, c35, c36, c37, c38, c39, c40, c41, c42, c43, c44, c45, c46, c47, c48, c49, c50, .inr (2, [.ref 52, .null, .null]), (xI 4), (xI 4)]) rfl ?_
  refine wPut 18 i32_15 p32_15 rfl (by decide) rfl rfl rfl ?_
  refine tHeap (h' := [c0, c1, c2, c3, c4, c5, c6, c7, c8, c9, c10, c11, c12, c13, c14, c15, c16, c17, c18, c19, c20, c21, c22, c23, c24, c25, c26, c27, c28, c29, c30, c31, c32, c33, c34, c35, c36, c37, c38, c39, c40, c41, c42, c43, c44, c45, c46, c47, c48, c49, c50, .inr (2, [.ref 52, .ref 53, .null]), (xI 4), (xI 4)]) rfl ?_
  refine wLan 19 i32_18 rfl rfl ?_
  refine wKs 22 160 i32_19 (by decide) rfl ?_
  refine eNewA (n := 54) (N := 160) (c := (xJ 160)) 1 160 0 0 i32_22 (by decide) (by decide) rfl rfl rfl rfl ?_
  refine tHeap (h' := [c0, c1, c2, c3, c4, c5, c6, c7, c8, c9, c10, c11, c12, c13, c14, c15, c16, c17, c18, c19, c20, c21, c22, c23, c24, c25, c26, c27, c28, c29, c30, c31, c32, c33, c34, c35, c36, c37, c38, c39, c40, c41, c42, c43, c44, c45, c46, c47, c48, c49, c50, .inr (2, [.ref 52, .ref 53, .null]), (xI 4), (xI 4), (xJ 160)]) rfl ?_
  refine wPut 27 i32_24 p32_18 rfl (by decide) rfl rfl rfl ?_
  refine tHeap (h' := [c0, c1, c2, c3, c4, c5, c6, c7, c8, c9, c10, c11, c12, c13, c14, c15, c16, c17, c18, c19, c20, c21, c22, c23, c24, c25, c26, c27, c28, c29, c30, c31, c32, c33, c34, c35, c36, c37, c38, c39, c40, c41, c42, c43, c44, c45, c46, c47, c48, c49, c50, .inr (2, [.ref 52, .ref 53, .ref 54]), (xI 4), (xI 4), (xJ 160)]) rfl ?_
  refine wK 28 0 i32_27 (by decide) rfl ?_
  refine wSin 29 [(1, .int 0), (0, .ref 51)] i32_28 m32 (by decide) rfl rfl ?_
  refine wLin 30 i32_29 rfl rfl ?_
  refine wK 31 4 i32_30 (by decide) rfl ?_
  refine wCF 47 34 i32_31 rfl (by decide) rfl ?_
  refine wLan 35 i32_34 rfl rfl ?_
  refine wGet 38 (.ref 52) i32_35 f32_9 rfl rfl rfl ?_
  refine wLin 39 i32_38 rfl rfl ?_
  refine wK 40 (-1) i32_39 (by decide) rfl ?_
  refine wIas 41 i32_40 rfl (by decide) rfl ?_
  refine tHeap (h' := [c0, c1, c2, c3, c4, c5, c6, c7, c8, c9, c10, c11, c12, c13, c14, c15, c16, c17, c18, c19, c20, c21, c22, c23, c24, c25, c26, c27, c28, c29, c30, c31, c32, c33, c34, c35, c36, c37, c38, c39, c40, c41, c42, c43, c44, c45, c46, c47, c48, c49, c50, .inr (2, [.ref 52, .ref 53, .ref 54]), .inl (.int, 4, .inl (upd (fun _ => 0) 0 (-1))), (xI 4), (xJ 160)]) rfl ?_
  refine wInc 44 [(1, .int 1), (0, .ref 51)] 1 i32_41 m32 (by decide) rfl (by decide) rfl rfl ?_
  refine wGo 29 i32_44 rfl ?_
  refine wLin 30 i32_29 rfl rfl ?_
  refine wK 31 4 i32_30 (by decide) rfl ?_
  refine wCF 47 34 i32_31 rfl (by decide) rfl ?_
  refine wLan 35 i32_34 rfl rfl ?_
  refine wGet 38 (.ref 52) i32_35 f32_9 rfl rfl rfl ?_
  refine wLin 39 i32_38 rfl rfl ?_
  refine wK 40 (-1) i32_39 (by decide) rfl ?_
  refine wIas 41 i32_40 rfl (by decide) rfl ?_
  refine tHeap (h' := [c0, c1, c2, c3, c4, c5, c6, c7, c8, c9, c10, c11, c12, c13, c14, c15, c16, c17, c18, c19, c20, c21, c22, c23, c24, c25, c26, c27, c28, c29, c30, c31, c32, c33, c34, c35, c36, c37, c38, c39, c40, c41, c42, c43, c44, c45, c46, c47, c48, c49, c50, .inr (2, [.ref 52, .ref 53, .ref 54]), .inl (.int, 4, .inl (upd (upd (fun _ => 0) 0 (-1)) 1 (-1))), (xI 4), (xJ 160)]) rfl ?_
  refine wInc 44 [(1, .int 2), (0, .ref 51)] 2 i32_41 m32 (by decide) rfl (by decide) rfl rfl ?_
  refine wGo 29 i32_44 rfl ?_
  refine wLin 30 i32_29 rfl rfl ?_
  refine wK 31 4 i32_30 (by decide) rfl ?_
  refine wCF 47 34 i32_31 rfl (by decide) rfl ?_
  refine wLan 35 i32_34 rfl rfl ?_
  refine wGet 38 (.ref 52) i32_35 f32_9 rfl rfl rfl ?_
  refine wLin 39 i32_38 rfl rfl ?_
  refine wK 40 (-1) i32_39 (by decide) rfl ?_
  refine wIas 41 i32_40 rfl (by decide) rfl ?_
  refine tHeap (h' := [c0, c1, c2, c3, c4, c5, c6, c7, c8, c9, c10, c11, c12, c13, c14, c15, c16, c17, c18, c19, c20, c21, c22, c23, c24, c25, c26, c27, c28, c29, c30, c31, c32, c33, c34, c35, c36, c37, c38, c39, c40, c41, c42, c43, c44, c45, c46, c47, c48, c49, c50, .inr (2, [.ref 52, .ref 53, .ref 54]), .inl (.int, 4, .inl (upd (upd (upd (fun _ => 0) 0 (-1)) 1 (-1)) 2 (-1))), (xI 4), (xJ 160)]) rfl ?_
  refine wInc 44 [(1, .int 3), (0, .ref 51)] 3 i32_41 m32 (by decide) rfl (by decide) rfl rfl ?_
  refine wGo 29 i32_44 rfl ?_
  refine wLin 30 i32_29 rfl rfl ?_
  refine wK 31 4 i32_30 (by decide) rfl ?_
  refine wCF 47 34 i32_31 rfl (by decide) rfl ?_
  refine wLan 35 i32_34 rfl rfl ?_
  refine wGet 38 (.ref 52) i32_35 f32_9 rfl rfl rfl ?_
  refine wLin 39 i32_38 rfl rfl ?_
  refine wK 40 (-1) i32_39 (by decide) rfl ?_
  refine wIas 41 i32_40 rfl (by decide) rfl ?_
  refine tHeap (h' := [c0, c1, c2, c3, c4, c5, c6, c7, c8, c9, c10, c11, c12, c13, c14, c15, c16, c17, c18, c19, c20, c21, c22, c23, c24, c25, c26, c27, c28, c29, c30, c31, c32, c33, c34, c35, c36, c37, c38, c39, c40, c41, c42, c43, c44, c45, c46, c47, c48, c49, c50, .inr (2, [.ref 52, .ref 53, .ref 54]), .inl (.int, 4, .inl (upd (upd (upd (upd (fun _ => 0) 0 (-1)) 1 (-1)) 2 (-1)) 3 (-1))), (xI 4), (xJ 160)]) rfl ?_
  refine wInc 44 [(1, .int 4), (0, .ref 51)] 4 i32_41 m32 (by decide) rfl (by decide) rfl rfl ?_
  refine wGo 29 i32_44 rfl ?_
  refine wLin 30 i32_29 rfl rfl ?_
  refine wK 31 4 i32_30 (by decide) rfl ?_
  refine wCT 47 i32_31 rfl (by decide) ?_
  refine wR0 i32_47 m32 ?_
  exact rfl
set_option maxHeartbeats 4000000 in
set_option maxRecDepth 100000 in
theorem k_Texts_b {sc : xS} {d : Nat} (c0 c1 c2 c3 c4 c5 c6 c7 c8 c9 c10 c11 c12 c13 c14 c15 c16 c17 c18 c19 c20 c21 c22 c23 c24 c25 c26 c27 c28 c29 c30 c31 c32 c33 c34 c35 c36 c37 c38 c39 c40 c41 c42 c43 c44 c45 c46 c47 c48 c49 c50 c51 c52 c53 c54 c55 : xE) : xT xg sc (d + 1) 66 0 [(0, .ref 56), (1, .int 8)] [] [c0, c1, c2, c3, c4, c5, c6, c7, c8, c9, c10, c11, c12, c13, c14, c15, c16, c17, c18, c19, c20, c21, c22, c23, c24, c25, c26, c27, c28, c29, c30, c31, c32, c33, c34, c35, c36, c37, c38, c39, c40, c41, c42, c43, c44, c45, c46, c47, c48, c49, c50, c51, c52, c53, c54, c55, .inr (4, [.null, .null, .null, .null, .null, .null, .null, .null])] (fun r => r = (none, [c0, c1, c2, c3, c4, c5, c6, c7, c8, c9, c10, c11, c12, c13, c14, c15, c16, c17, c18, c19, c20, c21, c22, c23, c24, c25, c26, c27, c28, c29, c30, c31, c32, c33, c34, c35, c36, c37, c38, c39, c40, c41, c42, c43, c44, c45, c46, c47, c48, c49, c50, c51, c52, c53, c54, c55, .inr (4, [.ref 57, .ref 58, .ref 59, .ref 60, .ref 61, .ref 62, .ref 63, .ref 64]), (xI 8), (xI 192), (xI 192), (xI 192), (xI 192), (xI 192), (xI 192), (xJ 1536)], 8, 2696)) := by
  refine wLan 1 i66_0 rfl rfl ?_
  refine tObj i66_1 l66_3 (by decide) ?_
  refine wLin 5 i66_4 rfl rfl ?_
  refine wKb 7 24 i66_5 (by decide) rfl ?_
  refine wA 8 i66_7 rfl rfl rfl ?_
  refine tTop (v := 192) (by decide) ?_
  refine wSin 9 [(2, .int 192), (0, .ref 56), (1, .int 8)] i66_8 m66 (by decide) rfl rfl ?_
  refine wLan 10 i66_9 rfl rfl ?_
  refine wLin 11 i66_10 rfl rfl ?_
  refine eNewA (n := 57) (N := 8) (c := (xI 8)) 8 2696 7 2688 i66_11 (by decide) (by decide) rfl rfl rfl rfl ?_
  refine tHeap (h' := [c0, c1, c2, c3, c4, c5, c6, c7, c8, c9, c10, c11, c12, c13, c14, c15, c16, c17, c18, c19, c20, c21, c22, c23, c24, c25, c26, c27, c28, c29, c30, c31, c32, c33, c34, c35, c36, c37, c38, c39, c40, c41, c42, c43, c44, c45, c46, c47, c48, c49, c50, c51, c52, c53, c54, c55, .inr (4, [.null, .null, .null, .null, .null, .null, .null, .null]), (xI 8)]) rfl ?_
  refine wPut 16 i66_13 p66_9 rfl (by decide) rfl rfl rfl ?_
  refine tHeap (h' := [c0, c1, c2, c3, c4, c5, c6, c7, c8, c9, c10, c11, c12, c13, c14, c15, c16, c17, c18, c19, c20, c21, c22, c23, c24, c25, c26, c27, c28, c29, c30, c31, c32, c33, c34, c35, c36, c37, c38, c39, c40, c41, c42, c43, c44, c45, c46, c47, c48, c49, c50, c51, c52, c53, c54, c55, .inr (4, [.ref 57, .null, .null, .null, .null, .null, .null, .null]), (xI 8)]) rfl ?_
  refine wLan 17 i66_16 rfl rfl ?_
  refine wLin 18 i66_17 rfl rfl ?_
  refine eNewA (n := 58) (N := 192) (c := (xI 192)) 7 2688 6 2496 i66_18 (by decide) (by decide) rfl rfl rfl rfl ?_
  refine tHeap (h' := [c0, c1, c2, c3, c4, c5, c6, c7, c8, c9, c10, c11, c12, c13, c14, c15, c16, c17, c18, c19, c20, c21, c22, c23, c24, c25, c26, c27, c28, c29, c30, c31, c32, c33, c34, c35, c36, c37, c38, c39, c40, c41, c42, c43, c44, c45, c46, c47, c48, c49, c50, c51, c52, c53, c54, c55, .inr (4, [.ref 57, .null, .null, .null, .null, .null, .null, .null]), (xI 8), (xI 192)]) rfl ?_
  refine wPut 23 i66_20 p66_15 rfl (by decide) rfl rfl rfl ?_
  refine tHeap (h' := [c0, c1, c2, c3, c4, c5, c6, c7, c8, c9, c10, c11, c12, c13, c14, c15, c16, c17, c18, c19, c20, c21, c22, c23, c24, c25, c26, c27, c28, c29, c30, c31, c32, c33, c34, c35, c36, c37, c38, c39, c40, c41, c42, c43, c44, c45, c46, c47, c48, c49, c50, c51, c52, c53, c54, c55, .inr (4, [.ref 57, .ref 58, .null, .null, .null, .null, .null, .null]), (xI 8), (xI 192)]) rfl ?_
  refine wLan 24 i66_23 rfl rfl ?_
  refine wLin 25 i66_24 rfl rfl ?_
  refine eNewA (n := 59) (N := 192) (c := (xI 192)) 6 2496 5 2304 i66_25 (by decide) (by decide) rfl rfl rfl rfl ?_
  refine tHeap (h' := [c0, c1, c2, c3, c4, c5, c6, c7, c8, c9, c10, c11, c12, c13, c14, c15, c16, c17, c18, c19, c20, c21, c22, c23, c24, c25, c26, c27, c28, c29, c30, c31, c32, c33, c34, c35, c36, c37, c38, c39, c40, c41, c42, c43, c44, c45, c46, c47, c48, c49, c50, c51, c52, c53, c54, c55, .inr (4, [.ref 57, .ref 58, .null, .null, .null, .null, .null, .null]), (xI 8), (xI 192), (xI 192)]) rfl ?_
  refine wPut 30 i66_27 p66_18 rfl (by decide) rfl rfl rfl ?_
  refine tHeap (h' := [c0, c1, c2, c3, c4, c5, c6, c7, c8, c9, c10, c11, c12, c13, c14, c15, c16, c17, c18, c19, c20, c21, c22, c23, c24, c25, c26, c27, c28, c29, c30, c31, c32, c33, c34, c35, c36, c37, c38, c39, c40, c41, c42, c43, c44, c45, c46, c47, c48, c49, c50, c51, c52, c53, c54, c55, .inr (4, [.ref 57, .ref 58, .ref 59, .null, .null, .null, .null, .null]), (xI 8), (xI 192), (xI 192)]) rfl ?_
  refine wLan 31 i66_30 rfl rfl ?_
  refine wLin 32 i66_31 rfl rfl ?_
  refine eNewA (n := 60) (N := 192) (c := (xI 192)) 5 2304 4 2112 i66_32 (by decide) (by decide) rfl rfl rfl rfl ?_
  refine tHeap (h' := [c0, c1, c2, c3, c4, c5, c6, c7, c8, c9, c10, c11, c12, c13, c14, c15, c16, c17, c18, c19, c20, c21, c22, c23, c24, c25, c26, c27, c28, c29, c30, c31, c32, c33, c34, c35, c36, c37, c38, c39, c40, c41, c42, c43, c44, c45, c46, c47, c48, c49, c50, c51, c52, c53, c54, c55, .inr (4, [.ref 57, .ref 58, .ref 59, .null, .null, .null, .null, .null]), (xI 8), (xI 192), (xI 192), (xI 192)]) rfl ?_
  refine wPut 37 i66_34 p66_21 rfl (by decide) rfl rfl rfl ?_
  refine tHeap (h' := [c0, c1, c2, c3, c4, c5, c6, c7, c8, c9, c10, c11, c12, c13, c14, c15, c16, c17, c18, c19, c20, c21, c22, c23, c24, c25, c26, c27, c28, c29, c30, c31, c32, c33, c34, c35, c36, c37, c38, c39, c40, c41, c42, c43, c44, c45, c46, c47, c48, c49, c50, c51, c52, c53, c54, c55, .inr (4, [.ref 57, .ref 58, .ref 59, .ref 60, .null, .null, .null, .null]), (xI 8), (xI 192), (xI 192), (xI 192)]) rfl ?_
  refine wLan 38 i66_37 rfl rfl ?_
  refine wLin 39 i66_38 rfl rfl ?_
  refine eNewA (n := 61) (N := 192) (c := (xI 192)) 4 2112 3 1920 i66_39 (by decide) (by decide) rfl rfl rfl rfl ?_
  refine tHeap (h' := [c0, c1, c2, c3, c4, c5, c6, c7, c8, c9, c10, c11, c12, c13, c14, c15, c16, c17, c18, c19, c20, c21, c22, c23, c24, c25, c26, c27, c28, c29, c30, c31, c32, c33, c34, c35, c36, c37, c38, c39, c40, c41, c42, c43, c44, c45, c46, c47, c48, c49, c50, c51, c52, c53, c54, c55, .inr (4, [.ref 57, .ref 58, .ref 59, .ref 60, .null, .null, .null, .null]), (xI 8), (xI 192), (xI 192), (xI 192), (xI 192)]) rfl ?_
  refine wPut 44 i66_41 p66_24 rfl (by decide) rfl rfl rfl ?_
  refine tHeap (h' := [c0, c1, c2, c3, c4, c5, c6, c7, c8, c9, c10, c11, c12, c13, c14, c15, c16, c17, c18, c19, c20, c21, c22, c23, c24, c25, c26, c27, c28, c29, c30, c31, c32, c33, c34, c35, c36, c37, c38, c39, c40, c41, c42, c43, c44, c45, c46, c47, c48, c49, c50, c51, c52, c53, c54, c55, .inr (4, [.ref 57, .ref 58, .ref 59, .ref 60, .ref 61, .null, .null, .null]), (xI 8), (xI 192), (xI 192), (xI 192), (xI 192)]) rfl ?_
  refine wLan 45 i66_44 rfl rfl ?_
  refine wLin 46 i66_45 rfl rfl ?_
  refine eNewA (n := 62) (N := 192) (c := (xI 192)) 3 1920 2 1728 i66_46 (by decide) (by decide) rfl rfl rfl rfl ?_
  refine tHeap (h' := [c0, c1, c2, c3, c4, c5, c6, c7, c8, c9, c10, c11, c12, c13, c14, c15, c16, c17, c18, c19, c20, c21, c22, c23, c24, c25, c26, c27, c28, c29, c30, c31, c32, c33, c34, c35, c36, c37, c38, c39, c40, c41, c42, c43, c44, c45, c46, c47, c48, c49, c50, c51, c52, c53, c54, c55, .inr (4, [.ref 57, .ref 58, .ref 59, .ref 60, .ref 61, .null, .null, .null]), (xI 8), (xI 192), (xI 192), (xI 192), (xI 192), (xI 192)]) rfl ?_
  refine wPut 51 i66_48 p66_27 rfl (by decide) rfl rfl rfl ?_
  refine tHeap (h' := [c0, c1, c2, c3, c4, c5, c6, c7, c8, c9, c10, c11, c12, c13, c14, c15, c16, c17, c18, c19, c20, c21, c22, c23, c24, c25, c26, c27, c28, c29, c30, c31, c32, c33, c34, c35, c36, c37, c38, c39, c40, c41, c42, c43, c44, c45, c46, c47, c48, c49, c50, c51, c52, c53, c54, c55, .inr (4, [.ref 57, .ref 58, .ref 59, .ref 60, .ref 61, .ref 62, .null, .null]), (xI 8), (xI 192), (xI 192), (xI 192), (xI 192), (xI 192)]) rfl ?_
  refine wLan 52 i66_51 rfl rfl ?_
  refine wLin 53 i66_52 rfl rfl ?_
  refine eNewA (n := 63) (N := 192) (c := (xI 192)) 2 1728 1 1536 i66_53 (by decide) (by decide) rfl rfl rfl rfl ?_
  refine tHeap (h' := [c0, c1, c2, c3, c4, c5, c6, c7, c8, c9, c10, c11, c12, c13, c14, c15, c16, c17, c18, c19, c20, c21, c22, c23, c24, c25, c26, c27, c28, c29, c30, c31, c32, c33, c34, c35, c36, c37, c38, c39, c40, c41, c42, c43, c44, c45, c46, c47, c48, c49, c50, c51, c52, c53, c54, c55, .inr (4, [.ref 57, .ref 58, .ref 59, .ref 60, .ref 61, .ref 62, .null, .null]), (xI 8), (xI 192), (xI 192), (xI 192), (xI 192), (xI 192), (xI 192)]) rfl ?_
  refine wPut 58 i66_55 p66_30 rfl (by decide) rfl rfl rfl ?_
  refine tHeap (h' := [c0, c1, c2, c3, c4, c5, c6, c7, c8, c9, c10, c11, c12, c13, c14, c15, c16, c17, c18, c19, c20, c21, c22, c23, c24, c25, c26, c27, c28, c29, c30, c31, c32, c33, c34, c35, c36, c37, c38, c39, c40, c41, c42, c43, c44, c45, c46, c47, c48, c49, c50, c51, c52, c53, c54, c55, .inr (4, [.ref 57, .ref 58, .ref 59, .ref 60, .ref 61, .ref 62, .ref 63, .null]), (xI 8), (xI 192), (xI 192), (xI 192), (xI 192), (xI 192), (xI 192)]) rfl ?_
  refine wLan 59 i66_58 rfl rfl ?_
  refine wLin 60 i66_59 rfl rfl ?_
  refine wKb 62 8 i66_60 (by decide) rfl ?_
  refine wA 63 i66_62 rfl rfl rfl ?_
  refine tTop (v := 1536) (by decide) ?_
  refine eNewA (n := 64) (N := 1536) (c := (xJ 1536)) 1 1536 0 0 i66_63 (by decide) (by decide) rfl rfl rfl rfl ?_
  refine tHeap (h' := [c0, c1, c2, c3, c4, c5, c6, c7, c8, c9, c10, c11, c12, c13, c14, c15, c16, c17, c18, c19, c20, c21, c22, c23, c24, c25, c26, c27, c28, c29, c30, c31, c32, c33, c34, c35, c36, c37, c38, c39, c40, c41, c42, c43, c44, c45, c46, c47, c48, c49, c50, c51, c52, c53, c54, c55, .inr (4, [.ref 57, .ref 58, .ref 59, .ref 60, .ref 61, .ref 62, .ref 63, .null]), (xI 8), (xI 192), (xI 192), (xI 192), (xI 192), (xI 192), (xI 192), (xJ 1536)]) rfl ?_
  refine wPut 68 i66_65 p66_33 rfl (by decide) rfl rfl rfl ?_
  refine tHeap (h' := [c0, c1, c2, c3, c4, c5, c6, c7, c8, c9, c10, c11, c12, c13, c14, c15, c16, c17, c18, c19, c20, c21, c22, c23, c24, c25, c26, c27, c28, c29, c30, c31, c32, c33, c34, c35, c36, c37, c38, c39, c40, c41, c42, c43, c44, c45, c46, c47, c48, c49, c50, c51, c52, c53, c54, c55, .inr (4, [.ref 57, .ref 58, .ref 59, .ref 60, .ref 61, .ref 62, .ref 63, .ref 64]), (xI 8), (xI 192), (xI 192), (xI 192), (xI 192), (xI 192), (xI 192), (xJ 1536)]) rfl ?_
  refine wR0 i66_68 m66 ?_
  exact rfl
set_option maxHeartbeats 4000000 in
set_option maxRecDepth 100000 in
theorem k_Told_c {sc : xS} {d : Nat} (c0 c1 c2 c3 c4 c5 c6 c7 c8 c9 c10 c11 c12 c13 c14 c15 c16 c17 c18 c19 c20 c21 c22 c23 c24 c25 c26 c27 c28 c29 c30 c31 c32 c33 c34 c35 c36 c37 c38 c39 c40 c41 c42 c43 c44 c45 c46 c47 c48 c49 c50 c51 c52 c53 c54 c55 c56 c57 c58 c59 c60 c61 c62 c63 c64 : xE) : xT xg sc (d + 1) 73 0 [(0, .ref 65), (1, .int 192)] [] [c0, c1, c2, c3, c4, c5, c6, c7, c8, c9, c10, c11, c12, c13, c14, c15, c16, c17, c18, c19, c20, c21, c22, c23, c24, c25, c26, c27, c28, c29, c30, c31, c32, c33, c34, c35, c36, c37, c38, c39, c40, c41, c42, c43, c44, c45, c46, c47, c48, c49, c50, c51, c52, c53, c54, c55, c56, c57, c58, c59, c60, c61, c62, c63, c64, .inr (5, [.null, .null, .null, .null, .null, .null, .null, .null, .null, .null, .null, .int 0])] (fun r => r = (none, [c0, c1, c2, c3, c4, c5, c6, c7, c8, c9, c10, c11, c12, c13, c14, c15, c16, c17, c18, c19, c20, c21, c22, c23, c24, c25, c26, c27, c28, c29, c30, c31, c32, c33, c34, c35, c36, c37, c38, c39, c40, c41, c42, c43, c44, c45, c46, c47, c48, c49, c50, c51, c52, c53, c54, c55, c56, c57, c58, c59, c60, c61, c62, c63, c64, .inr (5, [.ref 66, .ref 67, .ref 68, .ref 69, .ref 70, .ref 71, .ref 72, .ref 73, .ref 74, .ref 75, .ref 76, .int 0]), (xI 192), (xI 192), .inl (.int, 192, .inl xOne), (xZ 192), (xI 192), (xI 192), (xB 12288), (xJ 12288), (xB 12288), (xZ 192), (xI 192)], 11, 38400)) := by
  refine wLan 1 i73_0 rfl rfl ?_
  refine tObj i73_1 l73_3 (by decide) ?_
  refine wLan 5 i73_4 rfl rfl ?_
  refine wK 6 0 i73_5 (by decide) rfl ?_
  refine wPut 9 i73_6 p73_9 rfl (by decide) rfl rfl rfl ?_
  refine tHeap (h' := [c0, c1, c2, c3, c4, c5, c6, c7, c8, c9, c10, c11, c12, c13, c14, c15, c16, c17, c18, c19, c20, c21, c22, c23, c24, c25, c26, c27, c28, c29, c30, c31, c32, c33, c34, c35, c36, c37, c38, c39, c40, c41, c42, c43, c44, c45, c46, c47, c48, c49, c50, c51, c52, c53, c54, c55, c56, c57, c58, c59, c60, c61, c62, c63, c64, .inr (5, [.null, .null, .null, .null, .null, .null, .null, .null, .null, .null, .null, .int 0])]) rfl ?_
  refine wLan 10 i73_9 rfl rfl ?_
  refine wLin 11 i73_10 rfl rfl ?_
  refine eNewA (n := 66) (N := 192) (c := (xI 192)) 11 38400 10 38208 i73_11 (by decide) (by decide) rfl rfl rfl rfl ?_
  refine tHeap (h' := [c0, c1, c2, c3, c4, c5, c6, c7, c8, c9, c10, c11, c12, c13, c14, c15, c16, c17, c18, c19, c20, c21, c22, c23, c24, c25, c26, c27, c28, c29, c30, c31, c32, c33, c34, c35, c36, c37, c38, c39, c40, c41, c42, c43, c44, c45, c46, c47, c48, c49, c50, c51, c52, c53, c54, c55, c56, c57, c58, c59, c60, c61, c62, c63, c64, .inr (5, [.null, .null, .null, .null, .null, .null, .null, .null, .null, .null, .null, .int 0]), (xI 192)]) rfl ?_
  refine wPut 16 i73_13 p73_15 rfl (by decide) rfl rfl rfl ?_
  refine tHeap (h' := [c0, c1, c2, c3, c4, c5, c6, c7, c8, c9, c10, c11, c12, c13, c14, c15, c16, c17, c18, c19, c20, c21, c22, c23, c24, c25, c26, c27, c28, c29, c30, c31, c32, c33, c34, c35, c36, c37, c38, c39, c40, c41, c42, c43, c44, c45, c46, c47, c48, c49, c50, c51, c52, c53, c54, c55, c56, c57, c58, c59, c60, c61, c62, c63, c64, .inr (5, [.ref 66, .null, .null, .null, .null, .null, .null, .null, .null, .null, .null, .int 0]), (xI 192)]) rfl ?_
  refine wLan 17 i73_16 rfl rfl ?_
  refine wLin 18 i73_17 rfl rfl ?_
  refine eNewA (n := 67) (N := 192) (c := (xI 192)) 10 38208 9 38016 i73_18 (by decide) (by decide) rfl rfl rfl rfl ?_
  refine tHeap (h' := [c0, c1, c2, c3, c4, c5, c6, c7, c8, c9, c10, c11, c12, c13, c14, c15, c16, c17, c18, c19, c20, c21, c22, c23, c24, c25, c26, c27, c28, c29, c30, c31, c32, c33, c34, c35, c36, c37, c38, c39, c40, c41, c42, c43, c44, c45, c46, c47, c48, c49, c50, c51, c52, c53, c54, c55, c56, c57, c58, c59, c60, c61, c62, c63, c64, .inr (5, [.ref 66, .null, .null, .null, .null, .null, .null, .null, .null, .null, .null, .int 0]), (xI 192), (xI 192)]) rfl ?_
  refine wPut 23 i73_20 p73_19 rfl (by decide) rfl rfl rfl ?_
  refine tHeap (h' := [c0, c1, c2, c3, c4, c5, c6, c7, c8, c9, c10, c11, c12, c13, c14, c15, c16, c17, c18, c19, c20, c21, c22, c23, c24, c25, c26, c27, c28, c29, c30, c31, c32, c33, c34, c35, c36, c37, c38, c39, c40, c41, c42, c43, c44, c45, c46, c47, c48, c49, c50, c51, c52, c53, c54, c55, c56, c57, c58, c59, c60, c61, c62, c63, c64, .inr (5, [.ref 66, .ref 67, .null, .null, .null, .null, .null, .null, .null, .null, .null, .int 0]), (xI 192), (xI 192)]) rfl ?_
  refine wLan 24 i73_23 rfl rfl ?_
  refine wLin 25 i73_24 rfl rfl ?_
  refine eNewA (n := 68) (N := 192) (c := (xI 192)) 9 38016 8 37824 i73_25 (by decide) (by decide) rfl rfl rfl rfl ?_
  refine tHeap (h' := [c0, c1, c2, c3, c4, c5, c6, c7, c8, c9, c10, c11, c12, c13, c14, c15, c16, c17, c18, c19, c20, c21, c22, c23, c24, c25, c26, c27, c28, c29, c30, c31, c32, c33, c34, c35, c36, c37, c38, c39, c40, c41, c42, c43, c44, c45, c46, c47, c48, c49, c50, c51, c52, c53, c54, c55, c56, c57, c58, c59, c60, c61, c62, c63, c64, .inr (5, [.ref 66, .ref 67, .null, .null, .null, .null, .null, .null, .null, .null, .null, .int 0]), (xI 192), (xI 192), (xI 192)]) rfl ?_
  refine wPut 30 i73_27 p73_22 rfl (by decide) rfl rfl rfl ?_
  refine tHeap (h' := [c0, c1, c2, c3, c4, c5, c6, c7, c8, c9, c10, c11, c12, c13, c14, c15, c16, c17, c18, c19, c20, c21, c22, c23, c24, c25, c26, c27, c28, c29, c30, c31, c32, c33, c34, c35, c36, c37, c38, c39, c40, c41, c42, c43, c44, c45, c46, c47, c48, c49, c50, c51, c52, c53, c54, c55, c56, c57, c58, c59, c60, c61, c62, c63, c64, .inr (5, [.ref 66, .ref 67, .ref 68, .null, .null, .null, .null, .null, .null, .null, .null, .int 0]), (xI 192), (xI 192), (xI 192)]) rfl ?_
  refine wLan 31 i73_30 rfl rfl ?_
  refine wLin 32 i73_31 rfl rfl ?_
  refine eNewA (n := 69) (N := 192) (c := (xZ 192)) 8 37824 7 37632 i73_32 (by decide) (by decide) rfl rfl rfl rfl ?_
  refine tHeap (h' := [c0, c1, c2, c3, c4, c5, c6, c7, c8, c9, c10, c11, c12, c13, c14, c15, c16, c17, c18, c19, c20, c21, c22, c23, c24, c25, c26, c27, c28, c29, c30, c31, c32, c33, c34, c35, c36, c37, c38, c39, c40, c41, c42, c43, c44, c45, c46, c47, c48, c49, c50, c51, c52, c53, c54, c55, c56, c57, c58, c59, c60, c61, c62, c63, c64, .inr (5, [.ref 66, .ref 67, .ref 68, .null, .null, .null, .null, .null, .null, .null, .null, .int 0]), (xI 192), (xI 192), (xI 192), (xZ 192)]) rfl ?_
  refine wPut 37 i73_34 p73_25 rfl (by decide) rfl rfl rfl ?_
  refine tHeap (h' := [c0, c1, c2, c3, c4, c5, c6, c7, c8, c9, c10, c11, c12, c13, c14, c15, c16, c17, c18, c19, c20, c21, c22, c23, c24, c25, c26, c27, c28, c29, c30, c31, c32, c33, c34, c35, c36, c37, c38, c39, c40, c41, c42, c43, c44, c45, c46, c47, c48, c49, c50, c51, c52, c53, c54, c55, c56, c57, c58, c59, c60, c61, c62, c63, c64, .inr (5, [.ref 66, .ref 67, .ref 68, .ref 69, .null, .null, .null, .null, .null, .null, .null, .int 0]), (xI 192), (xI 192), (xI 192), (xZ 192)]) rfl ?_
  refine wLan 38 i73_37 rfl rfl ?_
  refine wLin 39 i73_38 rfl rfl ?_
  refine eNewA (n := 70) (N := 192) (c := (xI 192)) 7 37632 6 37440 i73_39 (by decide) (by decide) rfl rfl rfl rfl ?_
  refine tHeap (h' := [c0, c1, c2, c3, c4, c5, c6, c7, c8, c9, c10, c11, c12, c13, c14, c15, c16, c17, c18, c19, c20, c21, c22, c23, c24, c25, c26, c27, c28, c29, c30, c31, c32, c33, c34, c35, c36, c37, c38, c39, c40, c41, c42, c43, c44, c45, c46, c47, c48, c49, c50, c51, c52, c53, c54, c55, c56, c57, c58, c59, c60, c61, c62, c63, c64, .inr (5, [.ref 66, .ref 67, .ref 68, .ref 69, .null, .null, .null, .null, .null, .null, .null, .int 0]), (xI 192), (xI 192), (xI 192), (xZ 192), (xI 192)]) rfl ?_
  refine wPut 44 i73_41 p73_29 rfl (by decide) rfl rfl rfl ?_
  refine tHeap (h' := [c0, c1, c2, c3, c4, c5, c6, c7, c8, c9, c10, c11, c12, c13, c14, c15, c16, c17, c18, c19, c20, c21, c22, c23, c24, c25, c26, c27, c28, c29, c30, c31, c32, c33, c34, c35, c36, c37, c38, c39, c40, c41, c42, c43, c44, c45, c46, c47, c48, c49, c50, c51, c52, c53, c54, c55, c56, c57, c58, c59, c60, c61, c62, c63, c64, .inr (5, [.ref 66, .ref 67, .ref 68, .ref 69, .ref 70, .null, .null, .null, .null, .null, .null, .int 0]), (xI 192), (xI 192), (xI 192), (xZ 192), (xI 192)]) rfl ?_
  refine wLan 45 i73_44 rfl rfl ?_
  refine wLin 46 i73_45 rfl rfl ?_
  refine eNewA (n := 71) (N := 192) (c := (xI 192)) 6 37440 5 37248 i73_46 (by decide) (by decide) rfl rfl rfl rfl ?_
  refine tHeap (h' := [c0, c1, c2, c3, c4, c5, c6, c7, c8, c9, c10, c11, c12, c13, c14, c15, c16, c17, c18, c19, c20, c21, c22, c23, c24, c25, c26, c27, c28, c29, c30, c31, c32, c33, c34, c35, c36, c37, c38, c39, c40, c41, c42, c43, c44, c45, c46, c47, c48, c49, c50, c51, c52, c53, c54, c55, c56, c57, c58, c59, c60, c61, c62, c63, c64, .inr (5, [.ref 66, .ref 67, .ref 68, .ref 69, .ref 70, .null, .null, .null, .null, .null, .null, .int 0]), (xI 192), (xI 192), (xI 192), (xZ 192), (xI 192), (xI 192)]) rfl ?_
  refine wPut 51 i73_48 p73_32 rfl (by decide) rfl rfl rfl ?_
  refine tHeap (h' := [c0, c1, c2, c3, c4, c5, c6, c7, c8, c9, c10, c11, c12, c13, c14, c15, c16, c17, c18, c19, c20, c21, c22, c23, c24, c25, c26, c27, c28, c29, c30, c31, c32, c33, c34, c35, c36, c37, c38, c39, c40, c41, c42, c43, c44, c45, c46, c47, c48, c49, c50, c51, c52, c53, c54, c55, c56, c57, c58, c59, c60, c61, c62, c63, c64, .inr (5, [.ref 66, .ref 67, .ref 68, .ref 69, .ref 70, .ref 71, .null, .null, .null, .null, .null, .int 0]), (xI 192), (xI 192), (xI 192), (xZ 192), (xI 192), (xI 192)]) rfl ?_
  refine wLan 52 i73_51 rfl rfl ?_
  refine wLin 53 i73_52 rfl rfl ?_
  refine wKb 55 64 i73_53 (by decide) rfl ?_
  refine wA 56 i73_55 rfl rfl rfl ?_
  refine tTop (v := 12288) (by decide) ?_
  refine eNewA (n := 72) (N := 12288) (c := (xB 12288)) 5 37248 4 24960 i73_56 (by decide) (by decide) rfl rfl rfl rfl ?_
  refine tHeap (h' := [c0, c1, c2, c3, c4, c5, c6, c7, c8, c9, c10, c11, c12, c13, c14, c15, c16, c17, c18, c19, c20, c21, c22, c23, c24, c25, c26, c27, c28, c29, c30, c31, c32, c33, c34, c35, c36, c37, c38, c39, c40, c41, c42, c43, c44, c45, c46, c47, c48, c49, c50, c51, c52, c53, c54, c55, c56, c57, c58, c59, c60, c61, c62, c63, c64, .inr (5, [.ref 66, .ref 67, .ref 68, .ref 69, .ref 70, .ref 71, .null, .null, .null, .null, .null, .int 0]), (xI 192), (xI 192), (xI 192), (xZ 192), (xI 192), (xI 192), (xB 12288)]) rfl ?_
  refine wPut 61 i73_58 p73_35 rfl (by decide) rfl rfl rfl ?_
  refine tHeap (h' := [c0, c1, c2, c3, c4, c5, c6, c7, c8, c9, c10, c11, c12, c13, c14, c15, c16, c17, c18, c19, c20, c21, c22, c23, c24, c25, c26, c27, c28, c29, c30, c31, c32, c33, c34, c35, c36, c37, c38, c39, c40, c41, c42, c43, c44, c45, c46, c47, c48, c49, c50, c51, c52, c53, c54, c55, c56, c57, c58, c59, c60, c61, c62, c63, c64, .inr (5, [.ref 66, .ref 67, .ref 68, .ref 69, .ref 70, .ref 71, .ref 72, .null, .null, .null, .null, .int 0]), (xI 192), (xI 192), (xI 192), (xZ 192), (xI 192), (xI 192), (xB 12288)]) rfl ?_
  refine wLan 62 i73_61 rfl rfl ?_
  refine wLin 63 i73_62 rfl rfl ?_
  refine wKb 65 64 i73_63 (by decide) rfl ?_
  refine wA 66 i73_65 rfl rfl rfl ?_
  refine tTop (v := 12288) (by decide) ?_
  refine eNewA (n := 73) (N := 12288) (c := (xJ 12288)) 4 24960 3 12672 i73_66 (by decide) (by decide) rfl rfl rfl rfl ?_
  refine tHeap (h' := [c0, c1, c2, c3, c4, c5, c6, c7, c8, c9, c10, c11, c12, c13, c14, c15, c16, c17, c18, c19, c20, c21, c22, c23, c24, c25, c26, c27, c28, c29, c30, c31, c32, c33, c34, c35, c36, c37, c38, c39, c40, c41, c42, c43, c44, c45, c46, c47, c48, c49, c50, c51, c52, c53, c54, c55, c56, c57, c58, c59, c60, c61, c62, c63, c64, .inr (5, [.ref 66, .ref 67, .ref 68, .ref 69, .ref 70, .ref 71, .ref 72, .null, .null, .null, .null, .int 0]), (xI 192), (xI 192), (xI 192), (xZ 192), (xI 192), (xI 192), (xB 12288), (xJ 12288)]) rfl ?_
  refine wPut 71 i73_68 p73_39 rfl (by decide) rfl rfl rfl ?_
  refine tHeap (h' := [c0, c1, c2, c3, c4, c5, c6, c7, c8, c9, c10, c11, c12, c13, c14, c15, c16, c17, c18, c19, c20, c21, c22, c23, c24, c25, c26, c27, c28, c29, c30, c31, c32, c33, c34, c35, c36, c37, c38, c39, c40, c41, c42, c43, c44, c45, c46, c47, c48, c49, c50, c51, c52, c53, c54, c55, c56, c57, c58, c59, c60, c61, c62, c63, c64, .inr (5, [.ref 66, .ref 67, .ref 68, .ref 69, .ref 70, .ref 71, .ref 72, .ref 73, .null, .null, .null, .int 0]), (xI 192), (xI 192), (xI 192), (xZ 192), (xI 192), (xI 192), (xB 12288), (xJ 12288)]) rfl ?_
  refine wLan 72 i73_71 rfl rfl ?_
  refine wLin 73 i73_72 rfl rfl ?_
  refine wKb 75 64 i73_73 (by decide) rfl ?_
  refine wA 76 i73_75 rfl rfl rfl ?_
  refine tTop (v := 12288) (by decide) ?_
  refine eNewA (n := 74) (N := 12288) (c := (xB 12288)) 3 12672 2 384 i73_76 (by decide) (by decide) rfl rfl rfl rfl ?_
  refine tHeap (h' := [c0, c1, c2, c3, c4, c5, c6, c7, c8, c9, c10, c11, c12, c13, c14, c15, c16, c17, c18, c19, c20, c21, c22, c23, c24, c25, c26, c27, c28, c29, c30, c31, c32, c33, c34, c35, c36, c37, c38, c39, c40, c41, c42, c43, c44, c45, c46, c47, c48, c49, c50, c51, c52, c53, c54, c55, c56, c57, c58, c59, c60, c61, c62, c63, c64, .inr (5, [.ref 66, .ref 67, .ref 68, .ref 69, .ref 70, .ref 71, .ref 72, .ref 73, .null, .null, .null, .int 0]), (xI 192), (xI 192), (xI 192), (xZ 192), (xI 192), (xI 192), (xB 12288), (xJ 12288), (xB 12288)]) rfl ?_
  refine wPut 81 i73_78 p73_43 rfl (by decide) rfl rfl rfl ?_
  refine tHeap (h' := [c0, c1, c2, c3, c4, c5, c6, c7, c8, c9, c10, c11, c12, c13, c14, c15, c16, c17, c18, c19, c20, c21, c22, c23, c24, c25, c26, c27, c28, c29, c30, c31, c32, c33, c34, c35, c36, c37, c38, c39, c40, c41, c42, c43, c44, c45, c46, c47, c48, c49, c50, c51, c52, c53, c54, c55, c56, c57, c58, c59, c60, c61, c62, c63, c64, .inr (5, [.ref 66, .ref 67, .ref 68, .ref 69, .ref 70, .ref 71, .ref 72, .ref 73, .ref 74, .null, .null, .int 0]), (xI 192), (xI 192), (xI 192), (xZ 192), (xI 192), (xI 192), (xB 12288), (xJ 12288), (xB 12288)]) rfl ?_
  refine wLan 82 i73_81 rfl rfl ?_
  refine wLin 83 i73_82 rfl rfl ?_
  refine eNewA (n := 75) (N := 192) (c := (xZ 192)) 2 384 1 192 i73_83 (by decide) (by decide) rfl rfl rfl rfl ?_
  refine tHeap (h' := [c0, c1, c2, c3, c4, c5, c6, c7, c8, c9, c10, c11, c12, c13, c14, c15, c16, c17, c18, c19, c20, c21, c22, c23, c24, c25, c26, c27, c28, c29, c30, c31, c32, c33, c34, c35, c36, c37, c38, c39, c40, c41, c42, c43, c44, c45, c46, c47, c48, c49, c50, c51, c52, c53, c54, c55, c56, c57, c58, c59, c60, c61, c62, c63, c64, .inr (5, [.ref 66, .ref 67, .ref 68, .ref 69, .ref 70, .ref 71, .ref 72, .ref 73, .ref 74, .null, .null, .int 0]), (xI 192), (xI 192), (xI 192), (xZ 192), (xI 192), (xI 192), (xB 12288), (xJ 12288), (xB 12288), (xZ 192)]) rfl ?_
  refine wPut 88 i73_85 p73_46 rfl (by decide) rfl rfl rfl ?_
  refine tHeap (h' := [c0, c1, c2, c3, c4, c5, c6, c7, c8, c9, c10, c11, c12, c13, c14, c15, c16, c17, c18, c19, c20, c21, c22, c23, c24, c25, c26, c27, c28, c29, c30, c31, c32, c33, c34, c35, c36, c37, c38, c39, c40, c41, c42, c43, c44, c45, c46, c47, c48, c49, c50, c51, c52, c53, c54, c55, c56, c57, c58, c59, c60, c61, c62, c63, c64, .inr (5, [.ref 66, .ref 67, .ref 68, .ref 69, .ref 70, .ref 71, .ref 72, .ref 73, .ref 74, .ref 75, .null, .int 0]), (xI 192), (xI 192), (xI 192), (xZ 192), (xI 192), (xI 192), (xB 12288), (xJ 12288), (xB 12288), (xZ 192)]) rfl ?_
  refine wLan 89 i73_88 rfl rfl ?_
  refine wLin 90 i73_89 rfl rfl ?_
  refine eNewA (n := 76) (N := 192) (c := (xI 192)) 1 192 0 0 i73_90 (by decide) (by decide) rfl rfl rfl rfl ?_
  refine tHeap (h' := [c0, c1, c2, c3, c4, c5, c6, c7, c8, c9, c10, c11, c12, c13, c14, c15, c16, c17, c18, c19, c20, c21, c22, c23, c24, c25, c26, c27, c28, c29, c30, c31, c32, c33, c34, c35, c36, c37, c38, c39, c40, c41, c42, c43, c44, c45, c46, c47, c48, c49, c50, c51, c52, c53, c54, c55, c56, c57, c58, c59, c60, c61, c62, c63, c64, .inr (5, [.ref 66, .ref 67, .ref 68, .ref 69, .ref 70, .ref 71, .ref 72, .ref 73, .ref 74, .ref 75, .null, .int 0]), (xI 192), (xI 192), (xI 192), (xZ 192), (xI 192), (xI 192), (xB 12288), (xJ 12288), (xB 12288), (xZ 192), (xI 192)]) rfl ?_
  refine wPut 95 i73_92 p73_49 rfl (by decide) rfl rfl rfl ?_
  refine tHeap (h' := [c0, c1, c2, c3, c4, c5, c6, c7, c8, c9, c10, c11, c12, c13, c14, c15, c16, c17, c18, c19, c20, c21, c22, c23, c24, c25, c26, c27, c28, c29, c30, c31, c32, c33, c34, c35, c36, c37, c38, c39, c40, c41, c42, c43, c44, c45, c46, c47, c48, c49, c50, c51, c52, c53, c54, c55, c56, c57, c58, c59, c60, c61, c62, c63, c64, .inr (5, [.ref 66, .ref 67, .ref 68, .ref 69, .ref 70, .ref 71, .ref 72, .ref 73, .ref 74, .ref 75, .ref 76, .int 0]), (xI 192), (xI 192), (xI 192), (xZ 192), (xI 192), (xI 192), (xB 12288), (xJ 12288), (xB 12288), (xZ 192), (xI 192)]) rfl ?_
  refine wK 96 0 i73_95 (by decide) rfl ?_
  refine wSin 97 [(2, .int 0), (0, .ref 65), (1, .int 192)] i73_96 m73 (by decide) rfl rfl ?_
  refine told_fill 65 68 _ rfl (by decide) 192 0 0 _ (fun _ => 0) rfl rfl rfl rfl (fun j hj => absurd hj (Nat.not_lt_zero j)) (fun _ _ => rfl) ?_
  refine tHeap (h' := [c0, c1, c2, c3, c4, c5, c6, c7, c8, c9, c10, c11, c12, c13, c14, c15, c16, c17, c18, c19, c20, c21, c22, c23, c24, c25, c26, c27, c28, c29, c30, c31, c32, c33, c34, c35, c36, c37, c38, c39, c40, c41, c42, c43, c44, c45, c46, c47, c48, c49, c50, c51, c52, c53, c54, c55, c56, c57, c58, c59, c60, c61, c62, c63, c64, .inr (5, [.ref 66, .ref 67, .ref 68, .ref 69, .ref 70, .ref 71, .ref 72, .ref 73, .ref 74, .ref 75, .ref 76, .int 0]), (xI 192), (xI 192), .inl (.int, 192, .inl xOne), (xZ 192), (xI 192), (xI 192), (xB 12288), (xJ 12288), (xB 12288), (xZ 192), (xI 192)]) rfl ?_
  refine wR0 i73_115 m73 ?_
  exact rfl
set_option maxHeartbeats 4000000 in
set_option maxRecDepth 100000 in
theorem k_LateRows {sc : xS} {d : Nat} : xT xg sc (d + 3) 93 0 [(0, .ref 0)] [] [.inr (6, [.null, .null, .null, .null, .null, .null, .null, .null, .null, .null, .int 0, .int 0, .int 0, .int 0])] (fun r => r = (none, [.inr (6, [.ref 1, .ref 15, .ref 17, .ref 26, .ref 38, .ref 50, .ref 51, .ref 55, .ref 56, .ref 65, .int 99, .int 0, .int 99, .int 0]), .inr (1, [.ref 2, .int 0, .ref 11, .ref 12, .ref 13, .ref 14, .int 0, .int (-1)]), .inr (4, [.ref 3, .ref 4, .ref 5, .ref 6, .ref 7, .ref 8, .ref 9, .ref 10]), (xI 1), (xI 24), (xI 24), (xI 24), (xI 24), (xI 24), (xI 24), (xJ 192), (xI 120), (xI 121), (xI 121), (xI 121), .inr (0, [.ref 16, .int 0]), (xI 1024), .inr (4, [.ref 18, .ref 19, .ref 20, .ref 21, .ref 22, .ref 23, .ref 24, .ref 25]), (xI 8), (xI 192), (xI 192), (xI 192), (xI 192), (xI 192), (xI 192), (xJ 1536), .inr (5, [.ref 27, .ref 28, .ref 29, .ref 30, .ref 31, .ref 32, .ref 33, .ref 34, .ref 35, .ref 36, .ref 37, .int 0]), (xI 192), (xI 192), .inl (.int, 192, .inl xOne), (xZ 192), (xI 192), (xI 192), (xB 12288), (xJ 12288), (xB 12288), (xZ 192), (xI 192), .inr (5, [.ref 39, .ref 40, .ref 41, .ref 42, .ref 43, .ref 44, .ref 45, .ref 46, .ref 47, .ref 48, .ref 49, .int 0]), (xI 192), (xI 192), .inl (.int, 192, .inl xOne), (xZ 192), (xI 192), (xI 192), (xB 12288), (xJ 12288), (xB 12288), (xZ 192), (xI 192), .inr (3, [.ref 17, .ref 26, .int 0, .int 0, .long 0]), .inr (2, [.ref 52, .ref 53, .ref 54]), .inl (.int, 4, .inl (upd (upd (upd (upd (fun _ => 0) 0 (-1)) 1 (-1)) 2 (-1)) 3 (-1))), (xI 4), (xJ 160), (xJ 16), .inr (4, [.ref 57, .ref 58, .ref 59, .ref 60, .ref 61, .ref 62, .ref 63, .ref 64]), (xI 8), (xI 192), (xI 192), (xI 192), (xI 192), (xI 192), (xI 192), (xJ 1536), .inr (5, [.ref 66, .ref 67, .ref 68, .ref 69, .ref 70, .ref 71, .ref 72, .ref 73, .ref 74, .ref 75, .ref 76, .int 0]), (xI 192), (xI 192), .inl (.int, 192, .inl xOne), (xZ 192), (xI 192), (xI 192), (xB 12288), (xJ 12288), (xB 12288), (xZ 192), (xI 192)], 76, 122698)) := by
  refine wLan 1 i93_0 rfl rfl ?_
  refine tObj i93_1 l93_1 (by decide) ?_
  refine wLan 5 i93_4 rfl rfl ?_
  refine eNew (n := 1) (N := 8) 76 122698 75 122690 i93_5 n93_7 rfl rfl rfl rfl ?_
  refine tHeap (h' := [.inr (6, [.null, .null, .null, .null, .null, .null, .null, .null, .null, .null, .int 0, .int 0, .int 0, .int 0]), .inr (1, [.null, .int 0, .null, .null, .null, .null, .int 0, .int 0])]) rfl ?_
  refine wD 9 i93_8 rfl rfl rfl ?_
  refine eCallV 12 [.ref 1] [.ref 1, .ref 0] 75 122690 62 121862 i93_9 rfl (xlk5 l93_9) (Or.inr (Or.inr (Or.inr rfl))) m17 rfl rfl (by decide) (by decide) (by decide) rfl rfl (k_Reader_1 _) rfl rfl ?_
  refine wPut 15 i93_12 p93_10 rfl (by decide) rfl rfl rfl ?_
  refine tHeap (h' := [.inr (6, [.ref 1, .null, .null, .null, .null, .null, .null, .null, .null, .null, .int 0, .int 0, .int 0, .int 0]), .inr (1, [.ref 2, .int 0, .ref 11, .ref 12, .ref 13, .ref 14, .int 0, .int (-1)]), .inr (4, [.ref 3, .ref 4, .ref 5, .ref 6, .ref 7, .ref 8, .ref 9, .ref 10]), (xI 1), (xI 24), (xI 24), (xI 24), (xI 24), (xI 24), (xI 24), (xJ 192), (xI 120), (xI 121), (xI 121), (xI 121)]) rfl ?_
  refine wLan 16 i93_15 rfl rfl ?_
  refine eNew (n := 15) (N := 2) 62 121862 61 121860 i93_16 n93_16 rfl rfl rfl rfl ?_
  refine tHeap (h' := [.inr (6, [.ref 1, .null, .null, .null, .null, .null, .null, .null, .null, .null, .int 0, .int 0, .int 0, .int 0]), .inr (1, [.ref 2, .int 0, .ref 11, .ref 12, .ref 13, .ref 14, .int 0, .int (-1)]), .inr (4, [.ref 3, .ref 4, .ref 5, .ref 6, .ref 7, .ref 8, .ref 9, .ref 10]), (xI 1), (xI 24), (xI 24), (xI 24), (xI 24), (xI 24), (xI 24), (xJ 192), (xI 120), (xI 121), (xI 121), (xI 121), .inr (0, [.null, .int 0])]) rfl ?_
  refine wD 20 i93_19 rfl rfl rfl ?_
  refine eCallV 23 [.ref 15] [.ref 15, .ref 0] 61 121860 60 120836 i93_20 rfl (xlk5 l93_18) (Or.inr (Or.inr (Or.inr rfl))) m6 rfl rfl (by decide) (by decide) (by decide) rfl rfl (k_Printer _ _ _ _ _ _ _ _ _ _ _ _ _ _ _) rfl rfl ?_
  refine wPut 26 i93_23 p93_19 rfl (by decide) rfl rfl rfl ?_
  refine tHeap (h' := [.inr (6, [.ref 1, .ref 15, .null, .null, .null, .null, .null, .null, .null, .null, .int 0, .int 0, .int 0, .int 0]), .inr (1, [.ref 2, .int 0, .ref 11, .ref 12, .ref 13, .ref 14, .int 0, .int (-1)]), .inr (4, [.ref 3, .ref 4, .ref 5, .ref 6, .ref 7, .ref 8, .ref 9, .ref 10]), (xI 1), (xI 24), (xI 24), (xI 24), (xI 24), (xI 24), (xI 24), (xJ 192), (xI 120), (xI 121), (xI 121), (xI 121), .inr (0, [.ref 16, .int 0]), (xI 1024)]) rfl ?_
  refine wLan 27 i93_26 rfl rfl ?_
  refine eNew (n := 17) (N := 8) 60 120836 59 120828 i93_27 n93_23 rfl rfl rfl rfl ?_
  refine tHeap (h' := [.inr (6, [.ref 1, .ref 15, .null, .null, .null, .null, .null, .null, .null, .null, .int 0, .int 0, .int 0, .int 0]), .inr (1, [.ref 2, .int 0, .ref 11, .ref 12, .ref 13, .ref 14, .int 0, .int (-1)]), .inr (4, [.ref 3, .ref 4, .ref 5, .ref 6, .ref 7, .ref 8, .ref 9, .ref 10]), (xI 1), (xI 24), (xI 24), (xI 24), (xI 24), (xI 24), (xI 24), (xJ 192), (xI 120), (xI 121), (xI 121), (xI 121), .inr (0, [.ref 16, .int 0]), (xI 1024), .inr (4, [.null, .null, .null, .null, .null, .null, .null, .null])]) rfl ?_
  refine wD 31 i93_30 rfl rfl rfl ?_
  refine wKb 33 8 i93_31 (by decide) rfl ?_
  refine eCallV 36 [.ref 17, .int 8] [.ref 17, .ref 0] 59 120828 51 118132 i93_33 rfl (xlk4 l93_25) (Or.inr (Or.inr (Or.inl rfl))) m66 rfl rfl (by decide) (by decide) (by decide) rfl rfl (k_Texts_a _ _ _ _ _ _ _ _ _ _ _ _ _ _ _ _ _) rfl rfl ?_
  refine wPut 39 i93_36 p93_28 rfl (by decide) rfl rfl rfl ?_
  refine tHeap (h' := [.inr (6, [.ref 1, .ref 15, .ref 17, .null, .null, .null, .null, .null, .null, .null, .int 0, .int 0, .int 0, .int 0]), .inr (1, [.ref 2, .int 0, .ref 11, .ref 12, .ref 13, .ref 14, .int 0, .int (-1)]), .inr (4, [.ref 3, .ref 4, .ref 5, .ref 6, .ref 7, .ref 8, .ref 9, .ref 10]), (xI 1), (xI 24), (xI 24), (xI 24), (xI 24), (xI 24), (xI 24), (xJ 192), (xI 120), (xI 121), (xI 121), (xI 121), .inr (0, [.ref 16, .int 0]), (xI 1024), .inr (4, [.ref 18, .ref 19, .ref 20, .ref 21, .ref 22, .ref 23, .ref 24, .ref 25]), (xI 8), (xI 192), (xI 192), (xI 192), (xI 192), (xI 192), (xI 192), (xJ 1536)]) rfl ?_
  refine wLan 40 i93_39 rfl rfl ?_
  refine eNew (n := 26) (N := 12) 51 118132 50 118120 i93_40 n93_32 rfl rfl rfl rfl ?_
  refine tHeap (h' := [.inr (6, [.ref 1, .ref 15, .ref 17, .null, .null, .null, .null, .null, .null, .null, .int 0, .int 0, .int 0, .int 0]), .inr (1, [.ref 2, .int 0, .ref 11, .ref 12, .ref 13, .ref 14, .int 0, .int (-1)]), .inr (4, [.ref 3, .ref 4, .ref 5, .ref 6, .ref 7, .ref 8, .ref 9, .ref 10]), (xI 1), (xI 24), (xI 24), (xI 24), (xI 24), (xI 24), (xI 24), (xJ 192), (xI 120), (xI 121), (xI 121), (xI 121), .inr (0, [.ref 16, .int 0]), (xI 1024), .inr (4, [.ref 18, .ref 19, .ref 20, .ref 21, .ref 22, .ref 23, .ref 24, .ref 25]), (xI 8), (xI 192), (xI 192), (xI 192), (xI 192), (xI 192), (xI 192), (xJ 1536), .inr (5, [.null, .null, .null, .null, .null, .null, .null, .null, .null, .null, .null, .int 0])]) rfl ?_
  refine wD 44 i93_43 rfl rfl rfl ?_
  refine wKs 47 192 i93_44 (by decide) rfl ?_
  refine eCallV 50 [.ref 26, .int 192] [.ref 26, .ref 0] 50 118120 39 79720 i93_47 rfl (xlk4 l93_34) (Or.inr (Or.inr (Or.inl rfl))) m73 rfl rfl (by decide) (by decide) (by decide) rfl rfl (k_Told_a _ _ _ _ _ _ _ _ _ _ _ _ _ _ _ _ _ _ _ _ _ _ _ _ _ _) rfl rfl ?_
  refine wPut 53 i93_50 p93_35 rfl (by decide) rfl rfl rfl ?_
  refine tHeap (h' := [.inr (6, [.ref 1, .ref 15, .ref 17, .ref 26, .null, .null, .null, .null, .null, .null, .int 0, .int 0, .int 0, .int 0]), .inr (1, [.ref 2, .int 0, .ref 11, .ref 12, .ref 13, .ref 14, .int 0, .int (-1)]), .inr (4, [.ref 3, .ref 4, .ref 5, .ref 6, .ref 7, .ref 8, .ref 9, .ref 10]), (xI 1), (xI 24), (xI 24), (xI 24), (xI 24), (xI 24), (xI 24), (xJ 192), (xI 120), (xI 121), (xI 121), (xI 121), .inr (0, [.ref 16, .int 0]), (xI 1024), .inr (4, [.ref 18, .ref 19, .ref 20, .ref 21, .ref 22, .ref 23, .ref 24, .ref 25]), (xI 8), (xI 192), (xI 192), (xI 192), (xI 192), (xI 192), (xI 192), (xJ 1536), .inr (5, [.ref 27, .ref 28, .ref 29, .ref 30, .ref 31, .ref 32, .ref 33, .ref 34, .ref 35, .ref 36, .ref 37, .int 0]), (xI 192), (xI 192), .inl (.int, 192, .inl xOne), (xZ 192), (xI 192), (xI 192), (xB 12288), (xJ 12288), (xB 12288), (xZ 192), (xI 192)]) rfl ?_
  refine wLan 54 i93_53 rfl rfl ?_
  refine eNew (n := 38) (N := 12) 39 79720 38 79708 i93_54 n93_32 rfl rfl rfl rfl ?_
  refine tHeap (h' := [.inr (6, [.ref 1, .ref 15, .ref 17, .ref 26, .null, .null, .null, .null, .null, .null, .int 0, .int 0, .int 0, .int 0]), .inr (1, [.ref 2, .int 0, .ref 11, .ref 12, .ref 13, .ref 14, .int 0, .int (-1)]), .inr (4, [.ref 3, .ref 4, .ref 5, .ref 6, .ref 7, .ref 8, .ref 9, .ref 10]), (xI 1), (xI 24), (xI 24), (xI 24), (xI 24), (xI 24), (xI 24), (xJ 192), (xI 120), (xI 121), (xI 121), (xI 121), .inr (0, [.ref 16, .int 0]), (xI 1024), .inr (4, [.ref 18, .ref 19, .ref 20, .ref 21, .ref 22, .ref 23, .ref 24, .ref 25]), (xI 8), (xI 192), (xI 192), (xI 192), (xI 192), (xI 192), (xI 192), (xJ 1536), .inr (5, [.ref 27, .ref 28, .ref 29, .ref 30, .ref 31, .ref 32, .ref 33, .ref 34, .ref 35, .ref 36, .ref 37, .int 0]), (xI 192), (xI 192), .inl (.int, 192, .inl xOne), (xZ 192), (xI 192), (xI 192), (xB 12288), (xJ 12288), (xB 12288), (xZ 192), (xI 192), .inr (5, [.null, .null, .null, .null, .null, .null, .null, .null, .null, .null, .null, .int 0])]) rfl ?_
  refine wD 58 i93_57 rfl rfl rfl ?_
  refine wKs 61 192 i93_58 (by decide) rfl ?_
  refine eCallV 64 [.ref 38, .int 192] [.ref 38, .ref 0] 38 79708 27 41308 i93_61 rfl (xlk4 l93_34) (Or.inr (Or.inr (Or.inl rfl))) m73 rfl rfl (by decide) (by decide) (by decide) rfl rfl (k_Told_b _ _ _ _ _ _ _ _ _ _ _ _ _ _ _ _ _ _ _ _ _ _ _ _ _ _ _ _ _ _ _ _ _ _ _ _ _ _) rfl rfl ?_
  refine wPut 67 i93_64 p93_39 rfl (by decide) rfl rfl rfl ?_
  refine tHeap (h' := [.inr (6, [.ref 1, .ref 15, .ref 17, .ref 26, .ref 38, .null, .null, .null, .null, .null, .int 0, .int 0, .int 0, .int 0]), .inr (1, [.ref 2, .int 0, .ref 11, .ref 12, .ref 13, .ref 14, .int 0, .int (-1)]), .inr (4, [.ref 3, .ref 4, .ref 5, .ref 6, .ref 7, .ref 8, .ref 9, .ref 10]), (xI 1), (xI 24), (xI 24), (xI 24), (xI 24), (xI 24), (xI 24), (xJ 192), (xI 120), (xI 121), (xI 121), (xI 121), .inr (0, [.ref 16, .int 0]), (xI 1024), .inr (4, [.ref 18, .ref 19, .ref 20, .ref 21, .ref 22, .ref 23, .ref 24, .ref 25]), (xI 8), (xI 192), (xI 192), (xI 192), (xI 192), (xI 192), (xI 192), (xJ 1536), .inr (5, [.ref 27, .ref 28, .ref 29, .ref 30, .ref 31, .ref 32, .ref 33, .ref 34, .ref 35, .ref 36, .ref 37, .int 0]), (xI 192), (xI 192), .inl (.int, 192, .inl xOne), (xZ 192), (xI 192), (xI 192), (xB 12288), (xJ 12288), (xB 12288), (xZ 192), (xI 192), .inr (5, [.ref 39, .ref 40, .ref 41, .ref 42, .ref 43, .ref 44, .ref 45, .ref 46, .ref 47, .ref 48, .ref 49, .int 0]), (xI 192), (xI 192), .inl (.int, 192, .inl xOne), (xZ 192), (xI 192), (xI 192), (xB 12288), (xJ 12288), (xB 12288), (xZ 192), (xI 192)]) rfl ?_
  refine wLan 68 i93_67 rfl rfl ?_
  refine eNew (n := 50) (N := 5) 27 41308 26 41303 i93_68 n93_42 rfl rfl rfl rfl ?_
  refine tHeap (h' := [.inr (6, [.ref 1, .ref 15, .ref 17, .ref 26, .ref 38, .null, .null, .null, .null, .null, .int 0, .int 0, .int 0, .int 0]), .inr (1, [.ref 2, .int 0, .ref 11, .ref 12, .ref 13, .ref 14, .int 0, .int (-1)]), .inr (4, [.ref 3, .ref 4, .ref 5, .ref 6, .ref 7, .ref 8, .ref 9, .ref 10]), (xI 1), (xI 24), (xI 24), (xI 24), (xI 24), (xI 24), (xI 24), (xJ 192), (xI 120), (xI 121), (xI 121), (xI 121), .inr (0, [.ref 16, .int 0]), (xI 1024), .inr (4, [.ref 18, .ref 19, .ref 20, .ref 21, .ref 22, .ref 23, .ref 24, .ref 25]), (xI 8), (xI 192), (xI 192), (xI 192), (xI 192), (xI 192), (xI 192), (xJ 1536), .inr (5, [.ref 27, .ref 28, .ref 29, .ref 30, .ref 31, .ref 32, .ref 33, .ref 34, .ref 35, .ref 36, .ref 37, .int 0]), (xI 192), (xI 192), .inl (.int, 192, .inl xOne), (xZ 192), (xI 192), (xI 192), (xB 12288), (xJ 12288), (xB 12288), (xZ 192), (xI 192), .inr (5, [.ref 39, .ref 40, .ref 41, .ref 42, .ref 43, .ref 44, .ref 45, .ref 46, .ref 47, .ref 48, .ref 49, .int 0]), (xI 192), (xI 192), .inl (.int, 192, .inl xOne), (xZ 192), (xI 192), (xI 192), (xB 12288), (xJ 12288), (xB 12288), (xZ 192), (xI 192), .inr (3, [.null, .null, .int 0, .int 0, .long 0])]) rfl ?_
  refine wD 72 i93_71 rfl rfl rfl ?_
  refine wLan 73 i93_72 rfl rfl ?_
  refine wGet 76 (.ref 17) i93_73 f93_28 rfl rfl rfl ?_
  refine wLan 77 i93_76 rfl rfl ?_
  refine wGet 80 (.ref 26) i93_77 f93_35 rfl rfl rfl ?_
  refine eCallV 83 [.ref 50, .ref 17, .ref 26] [.ref 50, .ref 0] 26 41303 26 41303 i93_80 rfl (xlk4 l93_44) (Or.inr (Or.inr (Or.inl rfl))) m48 rfl rfl (by decide) (by decide) (by decide) rfl rfl (k_Teller _ _ _ _ _ _ _ _ _ _ _ _ _ _ _ _ _ _ _ _ _ _ _ _ _ _ _ _ _ _ _ _ _ _ _ _ _ _ _ _ _ _ _ _ _ _ _ _ _ _) rfl rfl ?_
  refine wPut 86 i93_83 p93_47 rfl (by decide) rfl rfl rfl ?_
  refine tHeap (h' := [.inr (6, [.ref 1, .ref 15, .ref 17, .ref 26, .ref 38, .ref 50, .null, .null, .null, .null, .int 0, .int 0, .int 0, .int 0]), .inr (1, [.ref 2, .int 0, .ref 11, .ref 12, .ref 13, .ref 14, .int 0, .int (-1)]), .inr (4, [.ref 3, .ref 4, .ref 5, .ref 6, .ref 7, .ref 8, .ref 9, .ref 10]), (xI 1), (xI 24), (xI 24), (xI 24), (xI 24), (xI 24), (xI 24), (xJ 192), (xI 120), (xI 121), (xI 121), (xI 121), .inr (0, [.ref 16, .int 0]), (xI 1024), .inr (4, [.ref 18, .ref 19, .ref 20, .ref 21, .ref 22, .ref 23, .ref 24, .ref 25]), (xI 8), (xI 192), (xI 192), (xI 192), (xI 192), (xI 192), (xI 192), (xJ 1536), .inr (5, [.ref 27, .ref 28, .ref 29, .ref 30, .ref 31, .ref 32, .ref 33, .ref 34, .ref 35, .ref 36, .ref 37, .int 0]), (xI 192), (xI 192), .inl (.int, 192, .inl xOne), (xZ 192), (xI 192), (xI 192), (xB 12288), (xJ 12288), (xB 12288), (xZ 192), (xI 192), .inr (5, [.ref 39, .ref 40, .ref 41, .ref 42, .ref 43, .ref 44, .ref 45, .ref 46, .ref 47, .ref 48, .ref 49, .int 0]), (xI 192), (xI 192), .inl (.int, 192, .inl xOne), (xZ 192), (xI 192), (xI 192), (xB 12288), (xJ 12288), (xB 12288), (xZ 192), (xI 192), .inr (3, [.ref 17, .ref 26, .int 0, .int 0, .long 0])]) rfl ?_
  refine wLan 87 i93_86 rfl rfl ?_
  refine eNew (n := 51) (N := 3) 26 41303 25 41300 i93_87 n93_51 rfl rfl rfl rfl ?_
  refine tHeap (h' := [.inr (6, [.ref 1, .ref 15, .ref 17, .ref 26, .ref 38, .ref 50, .null, .null, .null, .null, .int 0, .int 0, .int 0, .int 0]), .inr (1, [.ref 2, .int 0, .ref 11, .ref 12, .ref 13, .ref 14, .int 0, .int (-1)]), .inr (4, [.ref 3, .ref 4, .ref 5, .ref 6, .ref 7, .ref 8, .ref 9, .ref 10]), (xI 1), (xI 24), (xI 24), (xI 24), (xI 24), (xI 24), (xI 24), (xJ 192), (xI 120), (xI 121), (xI 121), (xI 121), .inr (0, [.ref 16, .int 0]), (xI 1024), .inr (4, [.ref 18, .ref 19, .ref 20, .ref 21, .ref 22, .ref 23, .ref 24, .ref 25]), (xI 8), (xI 192), (xI 192), (xI 192), (xI 192), (xI 192), (xI 192), (xJ 1536), .inr (5, [.ref 27, .ref 28, .ref 29, .ref 30, .ref 31, .ref 32, .ref 33, .ref 34, .ref 35, .ref 36, .ref 37, .int 0]), (xI 192), (xI 192), .inl (.int, 192, .inl xOne), (xZ 192), (xI 192), (xI 192), (xB 12288), (xJ 12288), (xB 12288), (xZ 192), (xI 192), .inr (5, [.ref 39, .ref 40, .ref 41, .ref 42, .ref 43, .ref 44, .ref 45, .ref 46, .ref 47, .ref 48, .ref 49, .int 0]), (xI 192), (xI 192), .inl (.int, 192, .inl xOne), (xZ 192), (xI 192), (xI 192), (xB 12288), (xJ 12288), (xB 12288), (xZ 192), (xI 192), .inr (3, [.ref 17, .ref 26, .int 0, .int 0, .long 0]), .inr (2, [.null, .null, .null])]) rfl ?_
  refine wD 91 i93_90 rfl rfl rfl ?_
  refine eCallV 94 [.ref 51] [.ref 51, .ref 0] 25 41300 22 41132 i93_91 rfl (xlk4 l93_53) (Or.inr (Or.inr (Or.inl rfl))) m32 rfl rfl (by decide) (by decide) (by decide) rfl rfl (k_Sheets _ _ _ _ _ _ _ _ _ _ _ _ _ _ _ _ _ _ _ _ _ _ _ _ _ _ _ _ _ _ _ _ _ _ _ _ _ _ _ _ _ _ _ _ _ _ _ _ _ _ _) rfl rfl ?_
  refine wPut 97 i93_94 p93_54 rfl (by decide) rfl rfl rfl ?_
  refine tHeap (h' := [.inr (6, [.ref 1, .ref 15, .ref 17, .ref 26, .ref 38, .ref 50, .ref 51, .null, .null, .null, .int 0, .int 0, .int 0, .int 0]), .inr (1, [.ref 2, .int 0, .ref 11, .ref 12, .ref 13, .ref 14, .int 0, .int (-1)]), .inr (4, [.ref 3, .ref 4, .ref 5, .ref 6, .ref 7, .ref 8, .ref 9, .ref 10]), (xI 1), (xI 24), (xI 24), (xI 24), (xI 24), (xI 24), (xI 24), (xJ 192), (xI 120), (xI 121), (xI 121), (xI 121), .inr (0, [.ref 16, .int 0]), (xI 1024), .inr (4, [.ref 18, .ref 19, .ref 20, .ref 21, .ref 22, .ref 23, .ref 24, .ref 25]), (xI 8), (xI 192), (xI 192), (xI 192), (xI 192), (xI 192), (xI 192), (xJ 1536), .inr (5, [.ref 27, .ref 28, .ref 29, .ref 30, .ref 31, .ref 32, .ref 33, .ref 34, .ref 35, .ref 36, .ref 37, .int 0]), (xI 192), (xI 192), .inl (.int, 192, .inl xOne), (xZ 192), (xI 192), (xI 192), (xB 12288), (xJ 12288), (xB 12288), (xZ 192), (xI 192), .inr (5, [.ref 39, .ref 40, .ref 41, .ref 42, .ref 43, .ref 44, .ref 45, .ref 46, .ref 47, .ref 48, .ref 49, .int 0]), (xI 192), (xI 192), .inl (.int, 192, .inl xOne), (xZ 192), (xI 192), (xI 192), (xB 12288), (xJ 12288), (xB 12288), (xZ 192), (xI 192), .inr (3, [.ref 17, .ref 26, .int 0, .int 0, .long 0]), .inr (2, [.ref 52, .ref 53, .ref 54]), .inl (.int, 4, .inl (upd (upd (upd (upd (fun _ => 0) 0 (-1)) 1 (-1)) 2 (-1)) 3 (-1))), (xI 4), (xJ 160)]) rfl ?_
  refine wLan 98 i93_97 rfl rfl ?_
  refine wKb 100 16 i93_98 (by decide) rfl ?_
  refine eNewA (n := 55) (N := 16) (c := (xJ 16)) 22 41132 21 41116 i93_100 (by decide) (by decide) rfl rfl rfl rfl ?_
  refine tHeap (h' := [.inr (6, [.ref 1, .ref 15, .ref 17, .ref 26, .ref 38, .ref 50, .ref 51, .null, .null, .null, .int 0, .int 0, .int 0, .int 0]), .inr (1, [.ref 2, .int 0, .ref 11, .ref 12, .ref 13, .ref 14, .int 0, .int (-1)]), .inr (4, [.ref 3, .ref 4, .ref 5, .ref 6, .ref 7, .ref 8, .ref 9, .ref 10]), (xI 1), (xI 24), (xI 24), (xI 24), (xI 24), (xI 24), (xI 24), (xJ 192), (xI 120), (xI 121), (xI 121), (xI 121), .inr (0, [.ref 16, .int 0]), (xI 1024), .inr (4, [.ref 18, .ref 19, .ref 20, .ref 21, .ref 22, .ref 23, .ref 24, .ref 25]), (xI 8), (xI 192), (xI 192), (xI 192), (xI 192), (xI 192), (xI 192), (xJ 1536), .inr (5, [.ref 27, .ref 28, .ref 29, .ref 30, .ref 31, .ref 32, .ref 33, .ref 34, .ref 35, .ref 36, .ref 37, .int 0]), (xI 192), (xI 192), .inl (.int, 192, .inl xOne), (xZ 192), (xI 192), (xI 192), (xB 12288), (xJ 12288), (xB 12288), (xZ 192), (xI 192), .inr (5, [.ref 39, .ref 40, .ref 41, .ref 42, .ref 43, .ref 44, .ref 45, .ref 46, .ref 47, .ref 48, .ref 49, .int 0]), (xI 192), (xI 192), .inl (.int, 192, .inl xOne), (xZ 192), (xI 192), (xI 192), (xB 12288), (xJ 12288), (xB 12288), (xZ 192), (xI 192), .inr (3, [.ref 17, .ref 26, .int 0, .int 0, .long 0]), .inr (2, [.ref 52, .ref 53, .ref 54]), .inl (.int, 4, .inl (upd (upd (upd (upd (fun _ => 0) 0 (-1)) 1 (-1)) 2 (-1)) 3 (-1))), (xI 4), (xJ 160), (xJ 16)]) rfl ?_
  refine wPut 105 i93_102 p93_58 rfl (by decide) rfl rfl rfl ?_
  refine tHeap (h' := [.inr (6, [.ref 1, .ref 15, .ref 17, .ref 26, .ref 38, .ref 50, .ref 51, .ref 55, .null, .null, .int 0, .int 0, .int 0, .int 0]), .inr (1, [.ref 2, .int 0, .ref 11, .ref 12, .ref 13, .ref 14, .int 0, .int (-1)]), .inr (4, [.ref 3, .ref 4, .ref 5, .ref 6, .ref 7, .ref 8, .ref 9, .ref 10]), (xI 1), (xI 24), (xI 24), (xI 24), (xI 24), (xI 24), (xI 24), (xJ 192), (xI 120), (xI 121), (xI 121), (xI 121), .inr (0, [.ref 16, .int 0]), (xI 1024), .inr (4, [.ref 18, .ref 19, .ref 20, .ref 21, .ref 22, .ref 23, .ref 24, .ref 25]), (xI 8), (xI 192), (xI 192), (xI 192), (xI 192), (xI 192), (xI 192), (xJ 1536), .inr (5, [.ref 27, .ref 28, .ref 29, .ref 30, .ref 31, .ref 32, .ref 33, .ref 34, .ref 35, .ref 36, .ref 37, .int 0]), (xI 192), (xI 192), .inl (.int, 192, .inl xOne), (xZ 192), (xI 192), (xI 192), (xB 12288), (xJ 12288), (xB 12288), (xZ 192), (xI 192), .inr (5, [.ref 39, .ref 40, .ref 41, .ref 42, .ref 43, .ref 44, .ref 45, .ref 46, .ref 47, .ref 48, .ref 49, .int 0]), (xI 192), (xI 192), .inl (.int, 192, .inl xOne), (xZ 192), (xI 192), (xI 192), (xB 12288), (xJ 12288), (xB 12288), (xZ 192), (xI 192), .inr (3, [.ref 17, .ref 26, .int 0, .int 0, .long 0]), .inr (2, [.ref 52, .ref 53, .ref 54]), .inl (.int, 4, .inl (upd (upd (upd (upd (fun _ => 0) 0 (-1)) 1 (-1)) 2 (-1)) 3 (-1))), (xI 4), (xJ 160), (xJ 16)]) rfl ?_
  refine wLan 106 i93_105 rfl rfl ?_
  refine eNew (n := 56) (N := 8) 21 41116 20 41108 i93_106 n93_23 rfl rfl rfl rfl ?_
  refine tHeap (h' := [.inr (6, [.ref 1, .ref 15, .ref 17, .ref 26, .ref 38, .ref 50, .ref 51, .ref 55, .null, .null, .int 0, .int 0, .int 0, .int 0]), .inr (1, [.ref 2, .int 0, .ref 11, .ref 12, .ref 13, .ref 14, .int 0, .int (-1)]), .inr (4, [.ref 3, .ref 4, .ref 5, .ref 6, .ref 7, .ref 8, .ref 9, .ref 10]), (xI 1), (xI 24), (xI 24), (xI 24), (xI 24), (xI 24), (xI 24), (xJ 192), (xI 120), (xI 121), (xI 121), (xI 121), .inr (0, [.ref 16, .int 0]), (xI 1024), .inr (4, [.ref 18, .ref 19, .ref 20, .ref 21, .ref 22, .ref 23, .ref 24, .ref 25]), (xI 8), (xI 192), (xI 192), (xI 192), (xI 192), (xI 192), (xI 192), (xJ 1536), .inr (5, [.ref 27, .ref 28, .ref 29, .ref 30, .ref 31, .ref 32, .ref 33, .ref 34, .ref 35, .ref 36, .ref 37, .int 0]), (xI 192), (xI 192), .inl (.int, 192, .inl xOne), (xZ 192), (xI 192), (xI 192), (xB 12288), (xJ 12288), (xB 12288), (xZ 192), (xI 192), .inr (5, [.ref 39, .ref 40, .ref 41, .ref 42, .ref 43, .ref 44, .ref 45, .ref 46, .ref 47, .ref 48, .ref 49, .int 0]), (xI 192), (xI 192), .inl (.int, 192, .inl xOne), (xZ 192), (xI 192), (xI 192), (xB 12288), (xJ 12288), (xB 12288), (xZ 192), (xI 192), .inr (3, [.ref 17, .ref 26, .int 0, .int 0, .long 0]), .inr (2, [.ref 52, .ref 53, .ref 54]), .inl (.int, 4, .inl (upd (upd (upd (upd (fun _ => 0) 0 (-1)) 1 (-1)) 2 (-1)) 3 (-1))), (xI 4), (xJ 160), (xJ 16), .inr (4, [.null, .null, .null, .null, .null, .null, .null, .null])]) rfl ?_
  refine wD 110 i93_109 rfl rfl rfl ?_
  refine wKb 112 8 i93_110 (by decide) rfl ?_
  refine eCallV 115 [.ref 56, .int 8] [.ref 56, .ref 0] 20 41108 12 38412 i93_112 rfl (xlk4 l93_25) (Or.inr (Or.inr (Or.inl rfl))) m66 rfl rfl (by decide) (by decide) (by decide) rfl rfl (k_Texts_b _ _ _ _ _ _ _ _ _ _ _ _ _ _ _ _ _ _ _ _ _ _ _ _ _ _ _ _ _ _ _ _ _ _ _ _ _ _ _ _ _ _ _ _ _ _ _ _ _ _ _ _ _ _ _ _) rfl rfl ?_
  refine wPut 118 i93_115 p93_62 rfl (by decide) rfl rfl rfl ?_
  refine tHeap (h' := [.inr (6, [.ref 1, .ref 15, .ref 17, .ref 26, .ref 38, .ref 50, .ref 51, .ref 55, .ref 56, .null, .int 0, .int 0, .int 0, .int 0]), .inr (1, [.ref 2, .int 0, .ref 11, .ref 12, .ref 13, .ref 14, .int 0, .int (-1)]), .inr (4, [.ref 3, .ref 4, .ref 5, .ref 6, .ref 7, .ref 8, .ref 9, .ref 10]), (xI 1), (xI 24), (xI 24), (xI 24), (xI 24), (xI 24), (xI 24), (xJ 192), (xI 120), (xI 121), (xI 121), (xI 121), .inr (0, [.ref 16, .int 0]), (xI 1024), .inr (4, [.ref 18, .ref 19, .ref 20, .ref 21, .ref 22, .ref 23, .ref 24, .ref 25]), (xI 8), (xI 192), (xI 192), (xI 192), (xI 192), (xI 192), (xI 192), (xJ 1536), .inr (5, [.ref 27, .ref 28, .ref 29, .ref 30, .ref 31, .ref 32, .ref 33, .ref 34, .ref 35, .ref 36, .ref 37, .int 0]), (xI 192), (xI 192), .inl (.int, 192, .inl xOne), (xZ 192), (xI 192), (xI 192), (xB 12288), (xJ 12288), (xB 12288), (xZ 192), (xI 192), .inr (5, [.ref 39, .ref 40, .ref 41, .ref 42, .ref 43, .ref 44, .ref 45, .ref 46, .ref 47, .ref 48, .ref 49, .int 0]), (xI 192), (xI 192), .inl (.int, 192, .inl xOne), (xZ 192), (xI 192), (xI 192), (xB 12288), (xJ 12288), (xB 12288), (xZ 192), (xI 192), .inr (3, [.ref 17, .ref 26, .int 0, .int 0, .long 0]), .inr (2, [.ref 52, .ref 53, .ref 54]), .inl (.int, 4, .inl (upd (upd (upd (upd (fun _ => 0) 0 (-1)) 1 (-1)) 2 (-1)) 3 (-1))), (xI 4), (xJ 160), (xJ 16), .inr (4, [.ref 57, .ref 58, .ref 59, .ref 60, .ref 61, .ref 62, .ref 63, .ref 64]), (xI 8), (xI 192), (xI 192), (xI 192), (xI 192), (xI 192), (xI 192), (xJ 1536)]) rfl ?_
  refine wLan 119 i93_118 rfl rfl ?_
  refine eNew (n := 65) (N := 12) 12 38412 11 38400 i93_119 n93_32 rfl rfl rfl rfl ?_
  refine tHeap (h' := [.inr (6, [.ref 1, .ref 15, .ref 17, .ref 26, .ref 38, .ref 50, .ref 51, .ref 55, .ref 56, .null, .int 0, .int 0, .int 0, .int 0]), .inr (1, [.ref 2, .int 0, .ref 11, .ref 12, .ref 13, .ref 14, .int 0, .int (-1)]), .inr (4, [.ref 3, .ref 4, .ref 5, .ref 6, .ref 7, .ref 8, .ref 9, .ref 10]), (xI 1), (xI 24), (xI 24), (xI 24), (xI 24), (xI 24), (xI 24), (xJ 192), (xI 120), (xI 121), (xI 121), (xI 121), .inr (0, [.ref 16, .int 0]), (xI 1024), .inr (4, [.ref 18, .ref 19, .ref 20, .ref 21, .ref 22, .ref 23, .ref 24, .ref 25]), (xI 8), (xI 192), (xI 192), (xI 192), (xI 192), (xI 192), (xI 192), (xJ 1536), .inr (5, [.ref 27, .ref 28, .ref 29, .ref 30, .ref 31, .ref 32, .ref 33, .ref 34, .ref 35, .ref 36, .ref 37, .int 0]), (xI 192), (xI 192), .inl (.int, 192, .inl xOne), (xZ 192), (xI 192), (xI 192), (xB 12288), (xJ 12288), (xB 12288), (xZ 192), (xI 192), .inr (5, [.ref 39, .ref 40, .ref 41, .ref 42, .ref 43, .ref 44, .ref 45, .ref 46, .ref 47, .ref 48, .ref 49, .int 0]), (xI 192), (xI 192), .inl (.int, 192, .inl xOne), (xZ 192), (xI 192), (xI 192), (xB 12288), (xJ 12288), (xB 12288), (xZ 192), (xI 192), .inr (3, [.ref 17, .ref 26, .int 0, .int 0, .long 0]), .inr (2, [.ref 52, .ref 53, .ref 54]), .inl (.int, 4, .inl (upd (upd (upd (upd (fun _ => 0) 0 (-1)) 1 (-1)) 2 (-1)) 3 (-1))), (xI 4), (xJ 160), (xJ 16), .inr (4, [.ref 57, .ref 58, .ref 59, .ref 60, .ref 61, .ref 62, .ref 63, .ref 64]), (xI 8), (xI 192), (xI 192), (xI 192), (xI 192), (xI 192), (xI 192), (xJ 1536), .inr (5, [.null, .null, .null, .null, .null, .null, .null, .null, .null, .null, .null, .int 0])]) rfl ?_
  refine wD 123 i93_122 rfl rfl rfl ?_
  refine wKs 126 192 i93_123 (by decide) rfl ?_
  refine eCallV 129 [.ref 65, .int 192] [.ref 65, .ref 0] 11 38400 0 0 i93_126 rfl (xlk4 l93_34) (Or.inr (Or.inr (Or.inl rfl))) m73 rfl rfl (by decide) (by decide) (by decide) rfl rfl (k_Told_c _ _ _ _ _ _ _ _ _ _ _ _ _ _ _ _ _ _ _ _ _ _ _ _ _ _ _ _ _ _ _ _ _ _ _ _ _ _ _ _ _ _ _ _ _ _ _ _ _ _ _ _ _ _ _ _ _ _ _ _ _ _ _ _ _) rfl rfl ?_
  refine wPut 132 i93_129 p93_65 rfl (by decide) rfl rfl rfl ?_
  refine tHeap (h' := [.inr (6, [.ref 1, .ref 15, .ref 17, .ref 26, .ref 38, .ref 50, .ref 51, .ref 55, .ref 56, .ref 65, .int 0, .int 0, .int 0, .int 0]), .inr (1, [.ref 2, .int 0, .ref 11, .ref 12, .ref 13, .ref 14, .int 0, .int (-1)]), .inr (4, [.ref 3, .ref 4, .ref 5, .ref 6, .ref 7, .ref 8, .ref 9, .ref 10]), (xI 1), (xI 24), (xI 24), (xI 24), (xI 24), (xI 24), (xI 24), (xJ 192), (xI 120), (xI 121), (xI 121), (xI 121), .inr (0, [.ref 16, .int 0]), (xI 1024), .inr (4, [.ref 18, .ref 19, .ref 20, .ref 21, .ref 22, .ref 23, .ref 24, .ref 25]), (xI 8), (xI 192), (xI 192), (xI 192), (xI 192), (xI 192), (xI 192), (xJ 1536), .inr (5, [.ref 27, .ref 28, .ref 29, .ref 30, .ref 31, .ref 32, .ref 33, .ref 34, .ref 35, .ref 36, .ref 37, .int 0]), (xI 192), (xI 192), .inl (.int, 192, .inl xOne), (xZ 192), (xI 192), (xI 192), (xB 12288), (xJ 12288), (xB 12288), (xZ 192), (xI 192), .inr (5, [.ref 39, .ref 40, .ref 41, .ref 42, .ref 43, .ref 44, .ref 45, .ref 46, .ref 47, .ref 48, .ref 49, .int 0]), (xI 192), (xI 192), .inl (.int, 192, .inl xOne), (xZ 192), (xI 192), (xI 192), (xB 12288), (xJ 12288), (xB 12288), (xZ 192), (xI 192), .inr (3, [.ref 17, .ref 26, .int 0, .int 0, .long 0]), .inr (2, [.ref 52, .ref 53, .ref 54]), .inl (.int, 4, .inl (upd (upd (upd (upd (fun _ => 0) 0 (-1)) 1 (-1)) 2 (-1)) 3 (-1))), (xI 4), (xJ 160), (xJ 16), .inr (4, [.ref 57, .ref 58, .ref 59, .ref 60, .ref 61, .ref 62, .ref 63, .ref 64]), (xI 8), (xI 192), (xI 192), (xI 192), (xI 192), (xI 192), (xI 192), (xJ 1536), .inr (5, [.ref 66, .ref 67, .ref 68, .ref 69, .ref 70, .ref 71, .ref 72, .ref 73, .ref 74, .ref 75, .ref 76, .int 0]), (xI 192), (xI 192), .inl (.int, 192, .inl xOne), (xZ 192), (xI 192), (xI 192), (xB 12288), (xJ 12288), (xB 12288), (xZ 192), (xI 192)]) rfl ?_
  refine wLan 133 i93_132 rfl rfl ?_
  refine wKb 135 99 i93_133 (by decide) rfl ?_
  refine wPut 138 i93_135 p93_68 rfl (by decide) rfl rfl rfl ?_
  refine tHeap (h' := [.inr (6, [.ref 1, .ref 15, .ref 17, .ref 26, .ref 38, .ref 50, .ref 51, .ref 55, .ref 56, .ref 65, .int 99, .int 0, .int 0, .int 0]), .inr (1, [.ref 2, .int 0, .ref 11, .ref 12, .ref 13, .ref 14, .int 0, .int (-1)]), .inr (4, [.ref 3, .ref 4, .ref 5, .ref 6, .ref 7, .ref 8, .ref 9, .ref 10]), (xI 1), (xI 24), (xI 24), (xI 24), (xI 24), (xI 24), (xI 24), (xJ 192), (xI 120), (xI 121), (xI 121), (xI 121), .inr (0, [.ref 16, .int 0]), (xI 1024), .inr (4, [.ref 18, .ref 19, .ref 20, .ref 21, .ref 22, .ref 23, .ref 24, .ref 25]), (xI 8), (xI 192), (xI 192), (xI 192), (xI 192), (xI 192), (xI 192), (xJ 1536), .inr (5, [.ref 27, .ref 28, .ref 29, .ref 30, .ref 31, .ref 32, .ref 33, .ref 34, .ref 35, .ref 36, .ref 37, .int 0]), (xI 192), (xI 192), .inl (.int, 192, .inl xOne), (xZ 192), (xI 192), (xI 192), (xB 12288), (xJ 12288), (xB 12288), (xZ 192), (xI 192), .inr (5, [.ref 39, .ref 40, .ref 41, .ref 42, .ref 43, .ref 44, .ref 45, .ref 46, .ref 47, .ref 48, .ref 49, .int 0]), (xI 192), (xI 192), .inl (.int, 192, .inl xOne), (xZ 192), (xI 192), (xI 192), (xB 12288), (xJ 12288), (xB 12288), (xZ 192), (xI 192), .inr (3, [.ref 17, .ref 26, .int 0, .int 0, .long 0]), .inr (2, [.ref 52, .ref 53, .ref 54]), .inl (.int, 4, .inl (upd (upd (upd (upd (fun _ => 0) 0 (-1)) 1 (-1)) 2 (-1)) 3 (-1))), (xI 4), (xJ 160), (xJ 16), .inr (4, [.ref 57, .ref 58, .ref 59, .ref 60, .ref 61, .ref 62, .ref 63, .ref 64]), (xI 8), (xI 192), (xI 192), (xI 192), (xI 192), (xI 192), (xI 192), (xJ 1536), .inr (5, [.ref 66, .ref 67, .ref 68, .ref 69, .ref 70, .ref 71, .ref 72, .ref 73, .ref 74, .ref 75, .ref 76, .int 0]), (xI 192), (xI 192), .inl (.int, 192, .inl xOne), (xZ 192), (xI 192), (xI 192), (xB 12288), (xJ 12288), (xB 12288), (xZ 192), (xI 192)]) rfl ?_
  refine wLan 139 i93_138 rfl rfl ?_
  refine wK 140 0 i93_139 (by decide) rfl ?_
  refine wPut 143 i93_140 p93_72 rfl (by decide) rfl rfl rfl ?_
  refine tHeap (h' := [.inr (6, [.ref 1, .ref 15, .ref 17, .ref 26, .ref 38, .ref 50, .ref 51, .ref 55, .ref 56, .ref 65, .int 99, .int 0, .int 0, .int 0]), .inr (1, [.ref 2, .int 0, .ref 11, .ref 12, .ref 13, .ref 14, .int 0, .int (-1)]), .inr (4, [.ref 3, .ref 4, .ref 5, .ref 6, .ref 7, .ref 8, .ref 9, .ref 10]), (xI 1), (xI 24), (xI 24), (xI 24), (xI 24), (xI 24), (xI 24), (xJ 192), (xI 120), (xI 121), (xI 121), (xI 121), .inr (0, [.ref 16, .int 0]), (xI 1024), .inr (4, [.ref 18, .ref 19, .ref 20, .ref 21, .ref 22, .ref 23, .ref 24, .ref 25]), (xI 8), (xI 192), (xI 192), (xI 192), (xI 192), (xI 192), (xI 192), (xJ 1536), .inr (5, [.ref 27, .ref 28, .ref 29, .ref 30, .ref 31, .ref 32, .ref 33, .ref 34, .ref 35, .ref 36, .ref 37, .int 0]), (xI 192), (xI 192), .inl (.int, 192, .inl xOne), (xZ 192), (xI 192), (xI 192), (xB 12288), (xJ 12288), (xB 12288), (xZ 192), (xI 192), .inr (5, [.ref 39, .ref 40, .ref 41, .ref 42, .ref 43, .ref 44, .ref 45, .ref 46, .ref 47, .ref 48, .ref 49, .int 0]), (xI 192), (xI 192), .inl (.int, 192, .inl xOne), (xZ 192), (xI 192), (xI 192), (xB 12288), (xJ 12288), (xB 12288), (xZ 192), (xI 192), .inr (3, [.ref 17, .ref 26, .int 0, .int 0, .long 0]), .inr (2, [.ref 52, .ref 53, .ref 54]), .inl (.int, 4, .inl (upd (upd (upd (upd (fun _ => 0) 0 (-1)) 1 (-1)) 2 (-1)) 3 (-1))), (xI 4), (xJ 160), (xJ 16), .inr (4, [.ref 57, .ref 58, .ref 59, .ref 60, .ref 61, .ref 62, .ref 63, .ref 64]), (xI 8), (xI 192), (xI 192), (xI 192), (xI 192), (xI 192), (xI 192), (xJ 1536), .inr (5, [.ref 66, .ref 67, .ref 68, .ref 69, .ref 70, .ref 71, .ref 72, .ref 73, .ref 74, .ref 75, .ref 76, .int 0]), (xI 192), (xI 192), .inl (.int, 192, .inl xOne), (xZ 192), (xI 192), (xI 192), (xB 12288), (xJ 12288), (xB 12288), (xZ 192), (xI 192)]) rfl ?_
  refine wLan 144 i93_143 rfl rfl ?_
  refine wKb 146 99 i93_144 (by decide) rfl ?_
  refine wPut 149 i93_146 p93_76 rfl (by decide) rfl rfl rfl ?_
  refine tHeap (h' := [.inr (6, [.ref 1, .ref 15, .ref 17, .ref 26, .ref 38, .ref 50, .ref 51, .ref 55, .ref 56, .ref 65, .int 99, .int 0, .int 99, .int 0]), .inr (1, [.ref 2, .int 0, .ref 11, .ref 12, .ref 13, .ref 14, .int 0, .int (-1)]), .inr (4, [.ref 3, .ref 4, .ref 5, .ref 6, .ref 7, .ref 8, .ref 9, .ref 10]), (xI 1), (xI 24), (xI 24), (xI 24), (xI 24), (xI 24), (xI 24), (xJ 192), (xI 120), (xI 121), (xI 121), (xI 121), .inr (0, [.ref 16, .int 0]), (xI 1024), .inr (4, [.ref 18, .ref 19, .ref 20, .ref 21, .ref 22, .ref 23, .ref 24, .ref 25]), (xI 8), (xI 192), (xI 192), (xI 192), (xI 192), (xI 192), (xI 192), (xJ 1536), .inr (5, [.ref 27, .ref 28, .ref 29, .ref 30, .ref 31, .ref 32, .ref 33, .ref 34, .ref 35, .ref 36, .ref 37, .int 0]), (xI 192), (xI 192), .inl (.int, 192, .inl xOne), (xZ 192), (xI 192), (xI 192), (xB 12288), (xJ 12288), (xB 12288), (xZ 192), (xI 192), .inr (5, [.ref 39, .ref 40, .ref 41, .ref 42, .ref 43, .ref 44, .ref 45, .ref 46, .ref 47, .ref 48, .ref 49, .int 0]), (xI 192), (xI 192), .inl (.int, 192, .inl xOne), (xZ 192), (xI 192), (xI 192), (xB 12288), (xJ 12288), (xB 12288), (xZ 192), (xI 192), .inr (3, [.ref 17, .ref 26, .int 0, .int 0, .long 0]), .inr (2, [.ref 52, .ref 53, .ref 54]), .inl (.int, 4, .inl (upd (upd (upd (upd (fun _ => 0) 0 (-1)) 1 (-1)) 2 (-1)) 3 (-1))), (xI 4), (xJ 160), (xJ 16), .inr (4, [.ref 57, .ref 58, .ref 59, .ref 60, .ref 61, .ref 62, .ref 63, .ref 64]), (xI 8), (xI 192), (xI 192), (xI 192), (xI 192), (xI 192), (xI 192), (xJ 1536), .inr (5, [.ref 66, .ref 67, .ref 68, .ref 69, .ref 70, .ref 71, .ref 72, .ref 73, .ref 74, .ref 75, .ref 76, .int 0]), (xI 192), (xI 192), .inl (.int, 192, .inl xOne), (xZ 192), (xI 192), (xI 192), (xB 12288), (xJ 12288), (xB 12288), (xZ 192), (xI 192)]) rfl ?_
  refine wLan 150 i93_149 rfl rfl ?_
  refine wK 151 0 i93_150 (by decide) rfl ?_
  refine wPut 154 i93_151 p93_79 rfl (by decide) rfl rfl rfl ?_
  refine tHeap (h' := [.inr (6, [.ref 1, .ref 15, .ref 17, .ref 26, .ref 38, .ref 50, .ref 51, .ref 55, .ref 56, .ref 65, .int 99, .int 0, .int 99, .int 0]), .inr (1, [.ref 2, .int 0, .ref 11, .ref 12, .ref 13, .ref 14, .int 0, .int (-1)]), .inr (4, [.ref 3, .ref 4, .ref 5, .ref 6, .ref 7, .ref 8, .ref 9, .ref 10]), (xI 1), (xI 24), (xI 24), (xI 24), (xI 24), (xI 24), (xI 24), (xJ 192), (xI 120), (xI 121), (xI 121), (xI 121), .inr (0, [.ref 16, .int 0]), (xI 1024), .inr (4, [.ref 18, .ref 19, .ref 20, .ref 21, .ref 22, .ref 23, .ref 24, .ref 25]), (xI 8), (xI 192), (xI 192), (xI 192), (xI 192), (xI 192), (xI 192), (xJ 1536), .inr (5, [.ref 27, .ref 28, .ref 29, .ref 30, .ref 31, .ref 32, .ref 33, .ref 34, .ref 35, .ref 36, .ref 37, .int 0]), (xI 192), (xI 192), .inl (.int, 192, .inl xOne), (xZ 192), (xI 192), (xI 192), (xB 12288), (xJ 12288), (xB 12288), (xZ 192), (xI 192), .inr (5, [.ref 39, .ref 40, .ref 41, .ref 42, .ref 43, .ref 44, .ref 45, .ref 46, .ref 47, .ref 48, .ref 49, .int 0]), (xI 192), (xI 192), .inl (.int, 192, .inl xOne), (xZ 192), (xI 192), (xI 192), (xB 12288), (xJ 12288), (xB 12288), (xZ 192), (xI 192), .inr (3, [.ref 17, .ref 26, .int 0, .int 0, .long 0]), .inr (2, [.ref 52, .ref 53, .ref 54]), .inl (.int, 4, .inl (upd (upd (upd (upd (fun _ => 0) 0 (-1)) 1 (-1)) 2 (-1)) 3 (-1))), (xI 4), (xJ 160), (xJ 16), .inr (4, [.ref 57, .ref 58, .ref 59, .ref 60, .ref 61, .ref 62, .ref 63, .ref 64]), (xI 8), (xI 192), (xI 192), (xI 192), (xI 192), (xI 192), (xI 192), (xJ 1536), .inr (5, [.ref 66, .ref 67, .ref 68, .ref 69, .ref 70, .ref 71, .ref 72, .ref 73, .ref 74, .ref 75, .ref 76, .int 0]), (xI 192), (xI 192), .inl (.int, 192, .inl xOne), (xZ 192), (xI 192), (xI 192), (xB 12288), (xJ 12288), (xB 12288), (xZ 192), (xI 192)]) rfl ?_
  refine wR0 i93_154 m93 ?_
  exact rfl
end
section
theorem i143_0 : xIns xg 143 0 = some (.aload_n 0) := by decide +kernel
theorem i143_1 : xIns xg 143 1 = some (.invokespecial 7) := by decide +kernel
theorem l143_7 : xMth xg 143 7 = some (6, 0, 0, 0) := by decide +kernel
theorem i143_4 : xIns xg 143 4 = some (.aload_n 0) := by decide +kernel
theorem i143_5 : xIns xg 143 5 = some (.bipush 8) := by decide +kernel
theorem i143_7 : xIns xg 143 7 = some (.newarray .int) := by decide +kernel
theorem i143_9 : xIns xg 143 9 = some (.putfield 13) := by decide +kernel
theorem p143_13 : xPut xg 143 13 = some (7, 1, (.array .int)) := by decide +kernel
theorem i143_12 : xIns xg 143 12 = some (.aload_n 0) := by decide +kernel
theorem i143_13 : xIns xg 143 13 = some (.sipush 192) := by decide +kernel
theorem i143_16 : xIns xg 143 16 = some (.newarray .int) := by decide +kernel
theorem i143_18 : xIns xg 143 18 = some (.putfield 17) := by decide +kernel
theorem p143_17 : xPut xg 143 17 = some (7, 2, (.array .int)) := by decide +kernel
theorem i143_21 : xIns xg 143 21 = some (.aload_n 0) := by decide +kernel
theorem i143_22 : xIns xg 143 22 = some (.sipush 192) := by decide +kernel
theorem i143_25 : xIns xg 143 25 = some (.newarray .int) := by decide +kernel
theorem i143_27 : xIns xg 143 27 = some (.putfield 20) := by decide +kernel
theorem p143_20 : xPut xg 143 20 = some (7, 3, (.array .int)) := by decide +kernel
theorem i143_30 : xIns xg 143 30 = some (.aload_n 0) := by decide +kernel
theorem i143_31 : xIns xg 143 31 = some (.sipush 192) := by decide +kernel
theorem i143_34 : xIns xg 143 34 = some (.newarray .int) := by decide +kernel
theorem i143_36 : xIns xg 143 36 = some (.putfield 23) := by decide +kernel
theorem p143_23 : xPut xg 143 23 = some (7, 4, (.array .int)) := by decide +kernel
theorem i143_39 : xIns xg 143 39 = some (.aload_n 0) := by decide +kernel
theorem i143_40 : xIns xg 143 40 = some (.sipush 192) := by decide +kernel
theorem i143_43 : xIns xg 143 43 = some (.newarray .long) := by decide +kernel
theorem i143_45 : xIns xg 143 45 = some (.putfield 26) := by decide +kernel
theorem p143_26 : xPut xg 143 26 = some (7, 5, (.array .long)) := by decide +kernel
theorem i143_48 : xIns xg 143 48 = some (.aload_n 0) := by decide +kernel
theorem i143_49 : xIns xg 143 49 = some (.sipush 192) := by decide +kernel
theorem i143_52 : xIns xg 143 52 = some (.newarray .long) := by decide +kernel
theorem i143_54 : xIns xg 143 54 = some (.putfield 30) := by decide +kernel
theorem p143_30 : xPut xg 143 30 = some (7, 6, (.array .long)) := by decide +kernel
theorem i143_57 : xIns xg 143 57 = some (.aload_n 0) := by decide +kernel
theorem i143_58 : xIns xg 143 58 = some (.sipush 192) := by decide +kernel
theorem i143_61 : xIns xg 143 61 = some (.newarray .int) := by decide +kernel
theorem i143_63 : xIns xg 143 63 = some (.putfield 33) := by decide +kernel
theorem p143_33 : xPut xg 143 33 = some (7, 7, (.array .int)) := by decide +kernel
theorem i143_66 : xIns xg 143 66 = some (.aload_n 0) := by decide +kernel
theorem i143_67 : xIns xg 143 67 = some (.sipush 1536) := by decide +kernel
theorem i143_70 : xIns xg 143 70 = some (.newarray .long) := by decide +kernel
theorem i143_72 : xIns xg 143 72 = some (.putfield 36) := by decide +kernel
theorem p143_36 : xPut xg 143 36 = some (7, 8, (.array .long)) := by decide +kernel
theorem i143_75 : xIns xg 143 75 = some (.aload_n 0) := by decide +kernel
theorem i143_76 : xIns xg 143 76 = some (.bipush 99) := by decide +kernel
theorem i143_78 : xIns xg 143 78 = some (.putfield 39) := by decide +kernel
theorem p143_39 : xPut xg 143 39 = some (7, 9, .int) := by decide +kernel
theorem i143_81 : xIns xg 143 81 = some (.aload_n 0) := by decide +kernel
theorem i143_82 : xIns xg 143 82 = some (.sipush 192) := by decide +kernel
theorem i143_85 : xIns xg 143 85 = some (.newarray .int) := by decide +kernel
theorem i143_87 : xIns xg 143 87 = some (.putfield 42) := by decide +kernel
theorem p143_42 : xPut xg 143 42 = some (7, 10, (.array .int)) := by decide +kernel
theorem i143_90 : xIns xg 143 90 = some (.aload_n 0) := by decide +kernel
theorem i143_91 : xIns xg 143 91 = some (.sipush 192) := by decide +kernel
theorem i143_94 : xIns xg 143 94 = some (.newarray .int) := by decide +kernel
theorem i143_96 : xIns xg 143 96 = some (.putfield 45) := by decide +kernel
theorem p143_45 : xPut xg 143 45 = some (7, 11, (.array .int)) := by decide +kernel
theorem i143_99 : xIns xg 143 99 = some (.aload_n 0) := by decide +kernel
theorem i143_100 : xIns xg 143 100 = some (.sipush 192) := by decide +kernel
theorem i143_103 : xIns xg 143 103 = some (.newarray .boolean) := by decide +kernel
theorem i143_105 : xIns xg 143 105 = some (.putfield 48) := by decide +kernel
theorem p143_48 : xPut xg 143 48 = some (7, 12, (.array .boolean)) := by decide +kernel
theorem i143_108 : xIns xg 143 108 = some (.aload_n 0) := by decide +kernel
theorem i143_109 : xIns xg 143 109 = some (.sipush 192) := by decide +kernel
theorem i143_112 : xIns xg 143 112 = some (.newarray .int) := by decide +kernel
theorem i143_114 : xIns xg 143 114 = some (.putfield 52) := by decide +kernel
theorem p143_52 : xPut xg 143 52 = some (7, 13, (.array .int)) := by decide +kernel
theorem i143_117 : xIns xg 143 117 = some (.aload_n 0) := by decide +kernel
theorem i143_118 : xIns xg 143 118 = some (.sipush 192) := by decide +kernel
theorem i143_121 : xIns xg 143 121 = some (.newarray .int) := by decide +kernel
theorem i143_123 : xIns xg 143 123 = some (.putfield 55) := by decide +kernel
theorem p143_55 : xPut xg 143 55 = some (7, 14, (.array .int)) := by decide +kernel
theorem i143_126 : xIns xg 143 126 = some (.aload_n 0) := by decide +kernel
theorem i143_127 : xIns xg 143 127 = some (.sipush 12288) := by decide +kernel
theorem i143_130 : xIns xg 143 130 = some (.newarray .int) := by decide +kernel
theorem i143_132 : xIns xg 143 132 = some (.putfield 58) := by decide +kernel
theorem p143_58 : xPut xg 143 58 = some (7, 15, (.array .int)) := by decide +kernel
theorem i143_135 : xIns xg 143 135 = some (.aload_n 0) := by decide +kernel
theorem i143_136 : xIns xg 143 136 = some (.sipush 12288) := by decide +kernel
theorem i143_139 : xIns xg 143 139 = some (.newarray .long) := by decide +kernel
theorem i143_141 : xIns xg 143 141 = some (.putfield 61) := by decide +kernel
theorem p143_61 : xPut xg 143 61 = some (7, 16, (.array .long)) := by decide +kernel
theorem i143_144 : xIns xg 143 144 = some (.aload_n 0) := by decide +kernel
theorem i143_145 : xIns xg 143 145 = some (.sipush 12288) := by decide +kernel
theorem i143_148 : xIns xg 143 148 = some (.newarray .int) := by decide +kernel
theorem i143_150 : xIns xg 143 150 = some (.putfield 64) := by decide +kernel
theorem p143_64 : xPut xg 143 64 = some (7, 17, (.array .int)) := by decide +kernel
theorem i143_153 : xIns xg 143 153 = some (.aload_n 0) := by decide +kernel
theorem i143_154 : xIns xg 143 154 = some (.bipush 120) := by decide +kernel
theorem i143_156 : xIns xg 143 156 = some (.newarray .int) := by decide +kernel
theorem i143_158 : xIns xg 143 158 = some (.putfield 67) := by decide +kernel
theorem p143_67 : xPut xg 143 67 = some (7, 18, (.array .int)) := by decide +kernel
theorem i143_161 : xIns xg 143 161 = some (.aload_n 0) := by decide +kernel
theorem i143_162 : xIns xg 143 162 = some (.bipush 24) := by decide +kernel
theorem i143_164 : xIns xg 143 164 = some (.newarray .int) := by decide +kernel
theorem i143_166 : xIns xg 143 166 = some (.putfield 70) := by decide +kernel
theorem p143_70 : xPut xg 143 70 = some (7, 27, (.array .int)) := by decide +kernel
theorem i143_169 : xIns xg 143 169 = some (.aload_n 0) := by decide +kernel
theorem i143_170 : xIns xg 143 170 = some (.bipush 24) := by decide +kernel
theorem i143_172 : xIns xg 143 172 = some (.newarray .int) := by decide +kernel
theorem i143_174 : xIns xg 143 174 = some (.putfield 73) := by decide +kernel
theorem p143_73 : xPut xg 143 73 = some (7, 28, (.array .int)) := by decide +kernel
theorem i143_177 : xIns xg 143 177 = some (.aload_n 0) := by decide +kernel
theorem i143_178 : xIns xg 143 178 = some (.bipush 24) := by decide +kernel
theorem i143_180 : xIns xg 143 180 = some (.newarray .int) := by decide +kernel
theorem i143_182 : xIns xg 143 182 = some (.putfield 76) := by decide +kernel
theorem p143_76 : xPut xg 143 76 = some (7, 29, (.array .int)) := by decide +kernel
theorem i143_185 : xIns xg 143 185 = some (.aload_n 0) := by decide +kernel
theorem i143_186 : xIns xg 143 186 = some (.bipush 24) := by decide +kernel
theorem i143_188 : xIns xg 143 188 = some (.newarray .long) := by decide +kernel
theorem i143_190 : xIns xg 143 190 = some (.putfield 79) := by decide +kernel
theorem p143_79 : xPut xg 143 79 = some (7, 30, (.array .long)) := by decide +kernel
theorem i143_193 : xIns xg 143 193 = some (.aload_n 0) := by decide +kernel
theorem i143_194 : xIns xg 143 194 = some (.bipush 24) := by decide +kernel
theorem i143_196 : xIns xg 143 196 = some (.newarray .long) := by decide +kernel
theorem i143_198 : xIns xg 143 198 = some (.putfield 82) := by decide +kernel
theorem p143_82 : xPut xg 143 82 = some (7, 31, (.array .long)) := by decide +kernel
theorem i143_201 : xIns xg 143 201 = some (.aload_n 0) := by decide +kernel
theorem i143_202 : xIns xg 143 202 = some (.bipush 24) := by decide +kernel
theorem i143_204 : xIns xg 143 204 = some (.newarray .int) := by decide +kernel
theorem i143_206 : xIns xg 143 206 = some (.putfield 85) := by decide +kernel
theorem p143_85 : xPut xg 143 85 = some (7, 32, (.array .int)) := by decide +kernel
theorem i143_209 : xIns xg 143 209 = some (.aload_n 0) := by decide +kernel
theorem i143_210 : xIns xg 143 210 = some (.sipush 192) := by decide +kernel
theorem i143_213 : xIns xg 143 213 = some (.newarray .long) := by decide +kernel
theorem i143_215 : xIns xg 143 215 = some (.putfield 88) := by decide +kernel
theorem p143_88 : xPut xg 143 88 = some (7, 33, (.array .long)) := by decide +kernel
theorem i143_218 : xIns xg 143 218 = some (.aload_n 0) := by decide +kernel
theorem i143_219 : xIns xg 143 219 = some (.sipush 4096) := by decide +kernel
theorem i143_222 : xIns xg 143 222 = some (.newarray .int) := by decide +kernel
theorem i143_224 : xIns xg 143 224 = some (.putfield 91) := by decide +kernel
theorem p143_91 : xPut xg 143 91 = some (7, 34, (.array .int)) := by decide +kernel
theorem i143_227 : xIns xg 143 227 = some (.aload_n 0) := by decide +kernel
theorem i143_228 : xIns xg 143 228 = some (.sipush 192) := by decide +kernel
theorem i143_231 : xIns xg 143 231 = some (.newarray .int) := by decide +kernel
theorem i143_233 : xIns xg 143 233 = some (.putfield 94) := by decide +kernel
theorem p143_94 : xPut xg 143 94 = some (7, 40, (.array .int)) := by decide +kernel
theorem i143_236 : xIns xg 143 236 = some (.aload_n 0) := by decide +kernel
theorem i143_237 : xIns xg 143 237 = some (.sipush 192) := by decide +kernel
theorem i143_240 : xIns xg 143 240 = some (.newarray .int) := by decide +kernel
theorem i143_242 : xIns xg 143 242 = some (.putfield 97) := by decide +kernel
theorem p143_97 : xPut xg 143 97 = some (7, 41, (.array .int)) := by decide +kernel
theorem i143_245 : xIns xg 143 245 = some (.aload_n 0) := by decide +kernel
theorem i143_246 : xIns xg 143 246 = some (.sipush 192) := by decide +kernel
theorem i143_249 : xIns xg 143 249 = some (.newarray .int) := by decide +kernel
theorem i143_251 : xIns xg 143 251 = some (.putfield 100) := by decide +kernel
theorem p143_100 : xPut xg 143 100 = some (7, 42, (.array .int)) := by decide +kernel
theorem i143_254 : xIns xg 143 254 = some (.aload_n 0) := by decide +kernel
theorem i143_255 : xIns xg 143 255 = some (.sipush 192) := by decide +kernel
theorem i143_258 : xIns xg 143 258 = some (.newarray .int) := by decide +kernel
theorem i143_260 : xIns xg 143 260 = some (.putfield 103) := by decide +kernel
theorem p143_103 : xPut xg 143 103 = some (7, 43, (.array .int)) := by decide +kernel
theorem i143_263 : xIns xg 143 263 = some (.aload_n 0) := by decide +kernel
theorem i143_264 : xIns xg 143 264 = some (.sipush 12288) := by decide +kernel
theorem i143_267 : xIns xg 143 267 = some (.newarray .int) := by decide +kernel
theorem i143_269 : xIns xg 143 269 = some (.putfield 106) := by decide +kernel
theorem p143_106 : xPut xg 143 106 = some (7, 44, (.array .int)) := by decide +kernel
theorem i143_272 : xIns xg 143 272 = some (.aload_n 0) := by decide +kernel
theorem i143_273 : xIns xg 143 273 = some (.sipush 12288) := by decide +kernel
theorem i143_276 : xIns xg 143 276 = some (.newarray .long) := by decide +kernel
theorem i143_278 : xIns xg 143 278 = some (.putfield 109) := by decide +kernel
theorem p143_109 : xPut xg 143 109 = some (7, 45, (.array .long)) := by decide +kernel
theorem i143_281 : xIns xg 143 281 = some (.aload_n 0) := by decide +kernel
theorem i143_282 : xIns xg 143 282 = some (.sipush 12288) := by decide +kernel
theorem i143_285 : xIns xg 143 285 = some (.newarray .int) := by decide +kernel
theorem i143_287 : xIns xg 143 287 = some (.putfield 112) := by decide +kernel
theorem p143_112 : xPut xg 143 112 = some (7, 46, (.array .int)) := by decide +kernel
theorem i143_290 : xIns xg 143 290 = some (.aload_n 0) := by decide +kernel
theorem i143_291 : xIns xg 143 291 = some (.bipush 16) := by decide +kernel
theorem i143_293 : xIns xg 143 293 = some (.newarray .long) := by decide +kernel
theorem i143_295 : xIns xg 143 295 = some (.putfield 115) := by decide +kernel
theorem p143_115 : xPut xg 143 115 = some (7, 47, (.array .long)) := by decide +kernel
theorem i143_298 : xIns xg 143 298 = some (.aload_n 0) := by decide +kernel
theorem i143_299 : xIns xg 143 299 = some (.bipush 8) := by decide +kernel
theorem i143_301 : xIns xg 143 301 = some (.newarray .int) := by decide +kernel
theorem i143_303 : xIns xg 143 303 = some (.putfield 118) := by decide +kernel
theorem p143_118 : xPut xg 143 118 = some (7, 48, (.array .int)) := by decide +kernel
theorem i143_306 : xIns xg 143 306 = some (.aload_n 0) := by decide +kernel
theorem i143_307 : xIns xg 143 307 = some (.sipush 192) := by decide +kernel
theorem i143_310 : xIns xg 143 310 = some (.newarray .int) := by decide +kernel
theorem i143_312 : xIns xg 143 312 = some (.putfield 121) := by decide +kernel
theorem p143_121 : xPut xg 143 121 = some (7, 49, (.array .int)) := by decide +kernel
theorem i143_315 : xIns xg 143 315 = some (.aload_n 0) := by decide +kernel
theorem i143_316 : xIns xg 143 316 = some (.sipush 192) := by decide +kernel
theorem i143_319 : xIns xg 143 319 = some (.newarray .int) := by decide +kernel
theorem i143_321 : xIns xg 143 321 = some (.putfield 124) := by decide +kernel
theorem p143_124 : xPut xg 143 124 = some (7, 50, (.array .int)) := by decide +kernel
theorem i143_324 : xIns xg 143 324 = some (.aload_n 0) := by decide +kernel
theorem i143_325 : xIns xg 143 325 = some (.sipush 192) := by decide +kernel
theorem i143_328 : xIns xg 143 328 = some (.newarray .int) := by decide +kernel
theorem i143_330 : xIns xg 143 330 = some (.putfield 127) := by decide +kernel
theorem p143_127 : xPut xg 143 127 = some (7, 51, (.array .int)) := by decide +kernel
theorem i143_333 : xIns xg 143 333 = some (.aload_n 0) := by decide +kernel
theorem i143_334 : xIns xg 143 334 = some (.sipush 192) := by decide +kernel
theorem i143_337 : xIns xg 143 337 = some (.newarray .long) := by decide +kernel
theorem i143_339 : xIns xg 143 339 = some (.putfield 130) := by decide +kernel
theorem p143_130 : xPut xg 143 130 = some (7, 52, (.array .long)) := by decide +kernel
theorem i143_342 : xIns xg 143 342 = some (.aload_n 0) := by decide +kernel
theorem i143_343 : xIns xg 143 343 = some (.sipush 192) := by decide +kernel
theorem i143_346 : xIns xg 143 346 = some (.newarray .long) := by decide +kernel
theorem i143_348 : xIns xg 143 348 = some (.putfield 133) := by decide +kernel
theorem p143_133 : xPut xg 143 133 = some (7, 53, (.array .long)) := by decide +kernel
theorem i143_351 : xIns xg 143 351 = some (.aload_n 0) := by decide +kernel
theorem i143_352 : xIns xg 143 352 = some (.sipush 192) := by decide +kernel
theorem i143_355 : xIns xg 143 355 = some (.newarray .int) := by decide +kernel
theorem i143_357 : xIns xg 143 357 = some (.putfield 136) := by decide +kernel
theorem p143_136 : xPut xg 143 136 = some (7, 54, (.array .int)) := by decide +kernel
theorem i143_360 : xIns xg 143 360 = some (.aload_n 0) := by decide +kernel
theorem i143_361 : xIns xg 143 361 = some (.sipush 1536) := by decide +kernel
theorem i143_364 : xIns xg 143 364 = some (.newarray .long) := by decide +kernel
theorem i143_366 : xIns xg 143 366 = some (.putfield 139) := by decide +kernel
theorem p143_139 : xPut xg 143 139 = some (7, 55, (.array .long)) := by decide +kernel
theorem i143_369 : xIns xg 143 369 = some (.aload_n 0) := by decide +kernel
theorem i143_370 : xIns xg 143 370 = some (.sipush 192) := by decide +kernel
theorem i143_373 : xIns xg 143 373 = some (.newarray .int) := by decide +kernel
theorem i143_375 : xIns xg 143 375 = some (.putfield 142) := by decide +kernel
theorem p143_142 : xPut xg 143 142 = some (7, 56, (.array .int)) := by decide +kernel
theorem i143_378 : xIns xg 143 378 = some (.aload_n 0) := by decide +kernel
theorem i143_379 : xIns xg 143 379 = some (.sipush 192) := by decide +kernel
theorem i143_382 : xIns xg 143 382 = some (.newarray .int) := by decide +kernel
theorem i143_384 : xIns xg 143 384 = some (.putfield 145) := by decide +kernel
theorem p143_145 : xPut xg 143 145 = some (7, 57, (.array .int)) := by decide +kernel
theorem i143_387 : xIns xg 143 387 = some (.aload_n 0) := by decide +kernel
theorem i143_388 : xIns xg 143 388 = some (.sipush 192) := by decide +kernel
theorem i143_391 : xIns xg 143 391 = some (.newarray .int) := by decide +kernel
theorem i143_393 : xIns xg 143 393 = some (.putfield 148) := by decide +kernel
theorem p143_148 : xPut xg 143 148 = some (7, 58, (.array .int)) := by decide +kernel
theorem i143_396 : xIns xg 143 396 = some (.aload_n 0) := by decide +kernel
theorem i143_397 : xIns xg 143 397 = some (.sipush 192) := by decide +kernel
theorem i143_400 : xIns xg 143 400 = some (.newarray .int) := by decide +kernel
theorem i143_402 : xIns xg 143 402 = some (.putfield 151) := by decide +kernel
theorem p143_151 : xPut xg 143 151 = some (7, 59, (.array .int)) := by decide +kernel
theorem i143_405 : xIns xg 143 405 = some (.aload_n 0) := by decide +kernel
theorem i143_406 : xIns xg 143 406 = some (.sipush 12288) := by decide +kernel
theorem i143_409 : xIns xg 143 409 = some (.newarray .int) := by decide +kernel
theorem i143_411 : xIns xg 143 411 = some (.putfield 154) := by decide +kernel
theorem p143_154 : xPut xg 143 154 = some (7, 60, (.array .int)) := by decide +kernel
theorem i143_414 : xIns xg 143 414 = some (.aload_n 0) := by decide +kernel
theorem i143_415 : xIns xg 143 415 = some (.sipush 12288) := by decide +kernel
theorem i143_418 : xIns xg 143 418 = some (.newarray .long) := by decide +kernel
theorem i143_420 : xIns xg 143 420 = some (.putfield 157) := by decide +kernel
theorem p143_157 : xPut xg 143 157 = some (7, 61, (.array .long)) := by decide +kernel
theorem i143_423 : xIns xg 143 423 = some (.aload_n 0) := by decide +kernel
theorem i143_424 : xIns xg 143 424 = some (.sipush 12288) := by decide +kernel
theorem i143_427 : xIns xg 143 427 = some (.newarray .int) := by decide +kernel
theorem i143_429 : xIns xg 143 429 = some (.putfield 160) := by decide +kernel
theorem p143_160 : xPut xg 143 160 = some (7, 62, (.array .int)) := by decide +kernel
theorem i143_432 : xIns xg 143 432 = some (.aload_n 0) := by decide +kernel
theorem i143_433 : xIns xg 143 433 = some (.iconst 4) := by decide +kernel
theorem i143_434 : xIns xg 143 434 = some (.newarray .boolean) := by decide +kernel
theorem i143_436 : xIns xg 143 436 = some (.putfield 163) := by decide +kernel
theorem p143_163 : xPut xg 143 163 = some (7, 65, (.array .boolean)) := by decide +kernel
theorem i143_439 : xIns xg 143 439 = some (.aload_n 0) := by decide +kernel
theorem i143_440 : xIns xg 143 440 = some (.iconst 4) := by decide +kernel
theorem i143_441 : xIns xg 143 441 = some (.newarray .int) := by decide +kernel
theorem i143_443 : xIns xg 143 443 = some (.putfield 166) := by decide +kernel
theorem p143_166 : xPut xg 143 166 = some (7, 66, (.array .int)) := by decide +kernel
theorem i143_446 : xIns xg 143 446 = some (.aload_n 0) := by decide +kernel
theorem i143_447 : xIns xg 143 447 = some (.iconst 4) := by decide +kernel
theorem i143_448 : xIns xg 143 448 = some (.newarray .int) := by decide +kernel
theorem i143_450 : xIns xg 143 450 = some (.putfield 169) := by decide +kernel
theorem p143_169 : xPut xg 143 169 = some (7, 67, (.array .int)) := by decide +kernel
theorem i143_453 : xIns xg 143 453 = some (.aload_n 0) := by decide +kernel
theorem i143_454 : xIns xg 143 454 = some (.sipush 160) := by decide +kernel
theorem i143_457 : xIns xg 143 457 = some (.newarray .long) := by decide +kernel
theorem i143_459 : xIns xg 143 459 = some (.putfield 172) := by decide +kernel
theorem p143_172 : xPut xg 143 172 = some (7, 68, (.array .long)) := by decide +kernel
theorem i143_462 : xIns xg 143 462 = some (.return_) := by decide +kernel
theorem m143 : (xMet xg 143).2.2 = (1, none) := by decide +kernel
set_option maxHeartbeats 4000000 in
set_option maxRecDepth 100000 in
theorem k_Model {sc : xS} {d : Nat} (c0 c1 c2 c3 c4 c5 c6 c7 c8 c9 c10 c11 c12 c13 c14 c15 c16 c17 c18 c19 c20 c21 c22 c23 c24 c25 c26 c27 c28 c29 c30 c31 c32 c33 c34 c35 c36 c37 c38 c39 c40 c41 c42 c43 c44 c45 c46 c47 c48 c49 c50 c51 c52 c53 c54 c55 c56 c57 c58 c59 c60 c61 c62 c63 c64 c65 c66 c67 c68 c69 c70 c71 c72 c73 c74 c75 c76 : xE) : xT xg sc (d + 1) 143 0 [(0, .ref 77)] [] [c0, c1, c2, c3, c4, c5, c6, c7, c8, c9, c10, c11, c12, c13, c14, c15, c16, c17, c18, c19, c20, c21, c22, c23, c24, c25, c26, c27, c28, c29, c30, c31, c32, c33, c34, c35, c36, c37, c38, c39, c40, c41, c42, c43, c44, c45, c46, c47, c48, c49, c50, c51, c52, c53, c54, c55, c56, c57, c58, c59, c60, c61, c62, c63, c64, c65, c66, c67, c68, c69, c70, c71, c72, c73, c74, c75, c76, .inr (7, [.int 0, .null, .null, .null, .null, .null, .null, .null, .null, .int 0, .null, .null, .null, .null, .null, .null, .null, .null, .null, .int 0, .int 0, .int 0, .int 0, .int 0, .int 0, .int 0, .int 0, .null, .null, .null, .null, .null, .null, .null, .null, .int 0, .int 0, .int 0, .long 0, .int 0, .null, .null, .null, .null, .null, .null, .null, .null, .null, .null, .null, .null, .null, .null, .null, .null, .null, .null, .null, .null, .null, .null, .null, .int 0, .int 0, .null, .null, .null, .null])] (fun r => r = (none, [c0, c1, c2, c3, c4, c5, c6, c7, c8, c9, c10, c11, c12, c13, c14, c15, c16, c17, c18, c19, c20, c21, c22, c23, c24, c25, c26, c27, c28, c29, c30, c31, c32, c33, c34, c35, c36, c37, c38, c39, c40, c41, c42, c43, c44, c45, c46, c47, c48, c49, c50, c51, c52, c53, c54, c55, c56, c57, c58, c59, c60, c61, c62, c63, c64, c65, c66, c67, c68, c69, c70, c71, c72, c73, c74, c75, c76, .inr (7, [.int 0, .ref 78, .ref 79, .ref 80, .ref 81, .ref 82, .ref 83, .ref 84, .ref 85, .int 99, .ref 86, .ref 87, .ref 88, .ref 89, .ref 90, .ref 91, .ref 92, .ref 93, .ref 94, .int 0, .int 0, .int 0, .int 0, .int 0, .int 0, .int 0, .int 0, .ref 95, .ref 96, .ref 97, .ref 98, .ref 99, .ref 100, .ref 101, .ref 102, .int 0, .int 0, .int 0, .long 0, .int 0, .ref 103, .ref 104, .ref 105, .ref 106, .ref 107, .ref 108, .ref 109, .ref 110, .ref 111, .ref 112, .ref 113, .ref 114, .ref 115, .ref 116, .ref 117, .ref 118, .ref 119, .ref 120, .ref 121, .ref 122, .ref 123, .ref 124, .ref 125, .int 0, .int 0, .ref 126, .ref 127, .ref 128, .ref 129]), (xI 8), (xI 192), (xI 192), (xI 192), (xJ 192), (xJ 192), (xI 192), (xJ 1536), (xI 192), (xI 192), (xZ 192), (xI 192), (xI 192), (xI 12288), (xJ 12288), (xI 12288), (xI 120), (xI 24), (xI 24), (xI 24), (xJ 24), (xJ 24), (xI 24), (xJ 192), (xI 4096), (xI 192), (xI 192), (xI 192), (xI 192), (xI 12288), (xJ 12288), (xI 12288), (xJ 16), (xI 8), (xI 192), (xI 192), (xI 192), (xJ 192), (xJ 192), (xI 192), (xJ 1536), (xI 192), (xI 192), (xI 192), (xI 192), (xI 12288), (xJ 12288), (xI 12288), (xZ 4), (xI 4), (xI 4), (xJ 160)], 52, 123220)) := by
  refine wLan 1 i143_0 rfl rfl ?_
  refine tObj i143_1 l143_7 (by decide) ?_
  refine wLan 5 i143_4 rfl rfl ?_
  refine wKb 7 8 i143_5 (by decide) rfl ?_
  refine eNewA (n := 78) (N := 8) (c := (xI 8)) 52 123220 51 123212 i143_7 (by decide) (by decide) rfl rfl rfl rfl ?_
  refine tHeap (h' := [c0, c1, c2, c3, c4, c5, c6, c7, c8, c9, c10, c11, c12, c13, c14, c15, c16, c17, c18, c19, c20, c21, c22, c23, c24, c25, c26, c27, c28, c29, c30, c31, c32, c33, c34, c35, c36, c37, c38, c39, c40, c41, c42, c43, c44, c45, c46, c47, c48, c49, c50, c51, c52, c53, c54, c55, c56, c57, c58, c59, c60, c61, c62, c63, c64, c65, c66, c67, c68, c69, c70, c71, c72, c73, c74, c75, c76, .inr (7, [.int 0, .null, .null, .null, .null, .null, .null, .null, .null, .int 0, .null, .null, .null, .null, .null, .null, .null, .null, .null, .int 0, .int 0, .int 0, .int 0, .int 0, .int 0, .int 0, .int 0, .null, .null, .null, .null, .null, .null, .null, .null, .int 0, .int 0, .int 0, .long 0, .int 0, .null, .null, .null, .null, .null, .null, .null, .null, .null, .null, .null, .null, .null, .null, .null, .null, .null, .null, .null, .null, .null, .null, .null, .int 0, .int 0, .null, .null, .null, .null]), (xI 8)]) rfl ?_
  refine wPut 12 i143_9 p143_13 rfl (by decide) rfl rfl rfl ?_
  refine tHeap (h' := [c0, c1, c2, c3, c4, c5, c6, c7, c8, c9, c10, c11, c12, c13, c14, c15, c16, c17, c18, c19, c20, c21, c22, c23, c24, c25, c26, c27, c28, c29, c30, c31, c32, c33, c34, c35, c36, c37, c38, c39, c40, c41, c42, c43, c44, c45, c46, c47, c48, c49, c50, c51, c52, c53, c54, c55, c56, c57, c58, c59, c60, c61, c62, c63, c64, c65, c66, c67, c68, c69, c70, c71, c72, c73, c74, c75, c76, .inr (7, [.int 0, .ref 78, .null, .null, .null, .null, .null, .null, .null, .int 0, .null, .null, .null, .null, .null, .null, .null, .null, .null, .int 0, .int 0, .int 0, .int 0, .int 0, .int 0, .int 0, .int 0, .null, .null, .null, .null, .null, .null, .null, .null, .int 0, .int 0, .int 0, .long 0, .int 0, .null, .null, .null, .null, .null, .null, .null, .null, .null, .null, .null, .null, .null, .null, .null, .null, .null, .null, .null, .null, .null, .null, .null, .int 0, .int 0, .null, .null, .null, .null]), (xI 8)]) rfl ?_
  refine wLan 13 i143_12 rfl rfl ?_
  refine wKs 16 192 i143_13 (by decide) rfl ?_
  refine eNewA (n := 79) (N := 192) (c := (xI 192)) 51 123212 50 123020 i143_16 (by decide) (by decide) rfl rfl rfl rfl ?_
  refine tHeap (h' := [c0, c1, c2, c3, c4, c5, c6, c7, c8, c9, c10, c11, c12, c13, c14, c15, c16, c17, c18, c19, c20, c21, c22, c23, c24, c25, c26, c27, c28, c29, c30, c31, c32, c33, c34, c35, c36, c37, c38, c39, c40, c41, c42, c43, c44, c45, c46, c47, c48, c49, c50, c51, c52, c53, c54, c55, c56, c57, c58, c59, c60, c61, c62, c63, c64, c65, c66, c67, c68, c69, c70, c71, c72, c73, c74, c75, c76, .inr (7, [.int 0, .ref 78, .null, .null, .null, .null, .null, .null, .null, .int 0, .null, .null, .null, .null, .null, .null, .null, .null, .null, .int 0, .int 0, .int 0, .int 0, .int 0, .int 0, .int 0, .int 0, .null, .null, .null, .null, .null, .null, .null, .null, .int 0, .int 0, .int 0, .long 0, .int 0, .null, .null, .null, .null, .null, .null, .null, .null, .null, .null, .null, .null, .null, .null, .null, .null, .null, .null, .null, .null, .null, .null, .null, .int 0, .int 0, .null, .null, .null, .null]), (xI 8), (xI 192)]) rfl ?_
  refine wPut 21 i143_18 p143_17 rfl (by decide) rfl rfl rfl ?_
  refine tHeap (h' := [c0, c1, c2, c3, c4, c5, c6, c7, c8, c9, c10, c11, c12, c13, c14, c15, c16, c17, c18, c19, c20, c21, c22, c23, c24, c25, c26, c27, c28, c29, c30, c31, c32, c33, c34, c35, c36, c37, c38, c39, c40, c41, c42, c43, c44, c45, c46, c47, c48, c49, c50, c51, c52, c53, c54, c55, c56, c57, c58, c59, c60, c61, c62, c63, c64, c65, c66, c67, c68, c69, c70, c71, c72, c73, c74, c75, c76, .inr (7, [.int 0, .ref 78, .ref 79, .null, .null, .null, .null, .null, .null, .int 0, .null, .null, .null, .null, .null, .null, .null, .null, .null, .int 0, .int 0, .int 0, .int 0, .int 0, .int 0, .int 0, .int 0, .null, .null, .null, .null, .null, .null, .null, .null, .int 0, .int 0, .int 0, .long 0, .int 0, .null, .null, .null, .null, .null, .null, .null, .null, .null, .null, .null, .null, .null, .null, .null, .null, .null, .null, .null, .null, .null, .null, .null, .int 0, .int 0, .null, .null, .null, .null]), (xI 8), (xI 192)]) rfl ?_
  refine wLan 22 i143_21 rfl rfl ?_
  refine wKs 25 192 i143_22 (by decide) rfl ?_
  refine eNewA (n := 80) (N := 192) (c := (xI 192)) 50 123020 49 122828 i143_25 (by decide) (by decide) rfl rfl rfl rfl ?_
  refine tHeap (h' := [c0, c1, c2, c3, c4, c5, c6, c7, c8, c9, c10, c11, c12, c13, c14, c15, c16, c17, c18, c19, c20, c21, c22, c23, c24, c25, c26, c27, c28, c29, c30, c31, c32, c33, c34, c35, c36, c37, c38, c39, c40, c41, c42, c43, c44, c45, c46, c47, c48, c49, c50, c51, c52, c53, c54, c55, c56, c57, c58, c59, c60, c61, c62, c63, c64, c65, c66, c67, c68, c69, c70, c71, c72, c73, c74, c75, c76, .inr (7, [.int 0, .ref 78, .ref 79, .null, .null, .null, .null, .null, .null, .int 0, .null, .null, .null, .null, .null, .null, .null, .null, .null, .int 0, .int 0, .int 0, .int 0, .int 0, .int 0, .int 0, .int 0, .null, .null, .null, .null, .null, .null, .null, .null, .int 0, .int 0, .int 0, .long 0, .int 0, .null, .null, .null, .null, .null, .null, .null, .null, .null, .null, .null, .null, .null, .null, .null, .null, .null, .null, .null, .null, .null, .null, .null, .int 0, .int 0, .null, .null, .null, .null]), (xI 8), (xI 192), (xI 192)]) rfl ?_
  refine wPut 30 i143_27 p143_20 rfl (by decide) rfl rfl rfl ?_
  refine tHeap (h' := [c0, c1, c2, c3, c4, c5, c6, c7, c8, c9, c10, c11, c12, c13, c14, c15, c16, c17, c18, c19, c20, c21, c22, c23, c24, c25, c26, c27, c28, c29, c30, c31, c32, c33, c34, c35, c36, c37, c38, c39, c40, c41, c42, c43, c44, c45, c46, c47, c48, c49, c50, c51, c52, c53, c54, c55, c56, c57, c58, c59, c60, c61, c62, c63, c64, c65, c66, c67, c68, c69, c70, c71, c72, c73, c74, c75, c76, .inr (7, [.int 0, .ref 78, .ref 79, .ref 80, .null, .null, .null, .null, .null, .int 0, .null, .null, .null, .null, .null, .null, .null, .null, .null, .int 0, .int 0, .int 0, .int 0, .int 0, .int 0, .int 0, .int 0, .null, .null, .null, .null, .null, .null, .null, .null, .int 0, .int 0, .int 0, .long 0, .int 0, .null, .null, .null, .null, .null, .null, .null, .null, .null, .null, .null, .null, .null, .null, .null, .null, .null, .null, .null, .null, .null, .null, .null, .int 0, .int 0, .null, .null, .null, .null]), (xI 8), (xI 192), (xI 192)]) rfl ?_
  refine wLan 31 i143_30 rfl rfl ?_
  refine wKs 34 192 i143_31 (by decide) rfl ?_
  refine eNewA (n := 81) (N := 192) (c := (xI 192)) 49 122828 48 122636 i143_34 (by decide) (by decide) rfl rfl rfl rfl ?_
  refine tHeap (h' := [c0, c1, c2, c3, c4, c5, c6, c7, c8, c9, c10, c11, c12, c13, c14, c15, c16, c17, c18, c19, c20, c21, c22, c23, c24, c25, c26, c27, c28, c29, c30, c31, c32, c33, c34, c35, c36, c37, c38, c39, c40, c41, c42, c43, c44, c45, c46, c47, c48, c49, c50, c51, c52, c53, c54, c55, c56, c57, c58, c59, c60, c61, c62, c63, c64, c65, c66, c67, c68, c69, c70, c71, c72, c73, c74, c75, c76, .inr (7, [.int 0, .ref 78, .ref 79, .ref 80, .null, .null, .null, .null, .null, .int 0, .null, .null, .null, .null, .null, .null, .null, .null, .null, .int 0, .int 0, .int 0, .int 0, .int 0, .int 0, .int 0, .int 0, .null, .null, .null, .null, .null, .null, .null, .null, .int 0, .int 0, .int 0, .long 0, .int 0, .null, .null, .null, .null, .null, .null, .null, .null, .null, .null, .null, .null, .null, .null, .null, .null, .null, .null, .null, .null, .null, .null, .null, .int 0, .int 0, .null, .null, .null, .null]), (xI 8), (xI 192), (xI 192), (xI 192)]) rfl ?_
  refine wPut 39 i143_36 p143_23 rfl (by decide) rfl rfl rfl ?_
  refine tHeap (h' := [c0, c1, c2, c3, c4, c5, c6, c7, c8, c9, c10, c11, c12, c13, c14, c15, c16, c17, c18, c19, c20, c21, c22, c23, c24, c25, c26, c27, c28, c29, c30, c31, c32, c33, c34, c35, c36, c37, c38, c39, c40, c41, c42, c43, c44, c45, c46, c47, c48, c49, c50, c51, c52, c53, c54, c55, c56, c57, c58, c59, c60, c61, c62, c63, c64, c65, c66, c67, c68, c69, c70, c71, c72, c73, c74, c75, c76, .inr (7, [.int 0, .ref 78, .ref 79, .ref 80, .ref 81, .null, .null, .null, .null, .int 0, .null, .null, .null, .null, .null, .null, .null, .null, .null, .int 0, .int 0, .int 0, .int 0, .int 0, .int 0, .int 0, .int 0, .null, .null, .null, .null, .null, .null, .null, .null, .int 0, .int 0, .int 0, .long 0, .int 0, .null, .null, .null, .null, .null, .null, .null, .null, .null, .null, .null, .null, .null, .null, .null, .null, .null, .null, .null, .null, .null, .null, .null, .int 0, .int 0, .null, .null, .null, .null]), (xI 8), (xI 192), (xI 192), (xI 192)]) rfl ?_
  refine wLan 40 i143_39 rfl rfl ?_
  refine wKs 43 192 i143_40 (by decide) rfl ?_
  refine eNewA (n := 82) (N := 192) (c := (xJ 192)) 48 122636 47 122444 i143_43 (by decide) (by decide) rfl rfl rfl rfl ?_
  refine tHeap (h' := [c0, c1, c2, c3, c4, c5, c6, c7, c8, c9, c10, c11, c12, c13, c14, c15, c16, c17, c18, c19, c20, c21, c22, c23, c24, c25, c26, c27, c28, c29, c30, c31, c32, c33, c34, c35, c36, c37, c38, c39, c40, c41, c42, c43, c44, c45, c46, c47, c48, c49, c50, c51, c52, c53, c54, c55, c56, c57, c58, c59, c60, c61, c62, c63, c64, c65, c66, c67, c68, c69, c70, c71, c72, c73, c74, c75, c76, .inr (7, [.int 0, .ref 78, .ref 79, .ref 80, .ref 81, .null, .null, .null, .null, .int 0, .null, .null, .null, .null, .null, .null, .null, .null, .null, .int 0, .int 0, .int 0, .int 0, .int 0, .int 0, .int 0, .int 0, .null, .null, .null, .null, .null, .null, .null, .null, .int 0, .int 0, .int 0, .long 0, .int 0, .null, .null, .null, .null, .null, .null, .null, .null, .null, .null, .null, .null, .null, .null, .null, .null, .null, .null, .null, .null, .null, .null, .null, .int 0, .int 0, .null, .null, .null, .null]), (xI 8), (xI 192), (xI 192), (xI 192), (xJ 192)]) rfl ?_
  refine wPut 48 i143_45 p143_26 rfl (by decide) rfl rfl rfl ?_
  refine tHeap (h' := [c0, c1, c2, c3, c4, c5, c6, c7, c8, c9, c10, c11, c12, c13, c14, c15, c16, c17, c18, c19, c20, c21, c22, c23, c24, c25, c26, c27, c28, c29, c30, c31, c32, c33, c34, c35, c36, c37, c38, c39, c40, c41, c42, c43, c44, c45, c46, c47, c48, c49, c50, c51, c52, c53, c54, c55, c56, c57, c58, c59, c60, c61, c62, c63, c64, c65, c66, c67, c68, c69, c70, c71, c72, c73, c74, c75, c76, .inr (7, [.int 0, .ref 78, .ref 79, .ref 80, .ref 81, .ref 82, .null, .null, .null, .int 0, .null, .null, .null, .null, .null, .null, .null, .null, .null, .int 0, .int 0, .int 0, .int 0, .int 0, .int 0, .int 0, .int 0, .null, .null, .null, .null, .null, .null, .null, .null, .int 0, .int 0, .int 0, .long 0, .int 0, .null, .null, .null, .null, .null, .null, .null, .null, .null, .null, .null, .null, .null, .null, .null, .null, .null, .null, .null, .null, .null, .null, .null, .int 0, .int 0, .null, .null, .null, .null]), (xI 8), (xI 192), (xI 192), (xI 192), (xJ 192)]) rfl ?_
  refine wLan 49 i143_48 rfl rfl ?_
  refine wKs 52 192 i143_49 (by decide) rfl ?_
  refine eNewA (n := 83) (N := 192) (c := (xJ 192)) 47 122444 46 122252 i143_52 (by decide) (by decide) rfl rfl rfl rfl ?_
  refine tHeap (h' := [c0, c1, c2, c3, c4, c5, c6, c7, c8, c9, c10, c11, c12, c13, c14, c15, c16, c17, c18, c19, c20, c21, c22, c23, c24, c25, c26, c27, c28, c29, c30, c31, c32, c33, c34, c35, c36, c37, c38, c39, c40, c41, c42, c43, c44, c45, c46, c47, c48, c49, c50, c51, c52, c53, c54, c55, c56, c57, c58, c59, c60, c61, c62, c63, c64, c65, c66, c67, c68, c69, c70, c71, c72, c73, c74, c75, c76, .inr (7, [.int 0, .ref 78, .ref 79, .ref 80, .ref 81, .ref 82, .null, .null, .null, .int 0, .null, .null, .null, .null, .null, .null, .null, .null, .null, .int 0, .int 0, .int 0, .int 0, .int 0, .int 0, .int 0, .int 0, .null, .null, .null, .null, .null, .null, .null, .null, .int 0, .int 0, .int 0, .long 0, .int 0, .null, .null, .null, .null, .null, .null, .null, .null, .null, .null, .null, .null, .null, .null, .null, .null, .null, .null, .null, .null, .null, .null, .null, .int 0, .int 0, .null, .null, .null, .null]), (xI 8), (xI 192), (xI 192), (xI 192), (xJ 192), (xJ 192)]) rfl ?_
  refine wPut 57 i143_54 p143_30 rfl (by decide) rfl rfl rfl ?_
  refine tHeap (h' := [c0, c1, c2, c3, c4, c5, c6, c7, c8, c9, c10, c11, c12, c13, c14, c15, c16, c17, c18, c19, c20, c21, c22, c23, c24, c25, c26, c27, c28, c29, c30, c31, c32, c33, c34, c35, c36, c37, c38, c39, c40, c41, c42, c43, c44, c45, c46, c47, c48, c49, c50, c51, c52, c53, c54, c55, c56, c57, c58, c59, c60, c61, c62, c63, c64, c65, c66, c67, c68, c69, c70, c71, c72, c73, c74, c75, c76, .inr (7, [.int 0, .ref 78, .ref 79, .ref 80, .ref 81, .ref 82, .ref 83, .null, .null, .int 0, .null, .null, .null, .null, .null, .null, .null, .null, .null, .int 0, .int 0, .int 0, .int 0, .int 0, .int 0, .int 0, .int 0, .null, .null, .null, .null, .null, .null, .null, .null, .int 0, .int 0, .int 0, .long 0, .int 0, .null, .null, .null, .null, .null, .null, .null, .null, .null, .null, .null, .null, .null, .null, .null, .null, .null, .null, .null, .null, .null, .null, .null, .int 0, .int 0, .null, .null, .null, .null]), (xI 8), (xI 192), (xI 192), (xI 192), (xJ 192), (xJ 192)]) rfl ?_
  refine wLan 58 i143_57 rfl rfl ?_
  refine wKs 61 192 i143_58 (by decide) rfl ?_
  refine eNewA (n := 84) (N := 192) (c := (xI 192)) 46 122252 45 122060 i143_61 (by decide) (by decide) rfl rfl rfl rfl ?_
  refine tHeap (h' := [c0, c1, c2, c3, c4, c5, c6, c7, c8, c9, c10, c11, c12, c13, c14, c15, c16, c17, c18, c19, c20, c21, c22, c23, c24, c25, c26, c27, c28, c29, c30, c31, c32, c33, c34, c35, c36, c37, c38, c39, c40, c41, c42, c43, c44, c45, c46, c47, c48, c49, c50, c51, c52, c53, c54, c55, c56, c57, c58, c59, c60, c61, c62, c63, c64, c65, c66, c67, c68, c69, c70, c71, c72, c73, c74, c75, c76, .inr (7, [.int 0, .ref 78, .ref 79, .ref 80, .ref 81, .ref 82, .ref 83, .null, .null, .int 0, .null, .null, .null, .null, .null, .null, .null, .null, .null, .int 0, .int 0, .int 0, .int 0, .int 0, .int 0, .int 0, .int 0, .null, .null, .null, .null, .null, .null, .null, .null, .int 0, .int 0, .int 0, .long 0, .int 0, .null, .null, .null, .null, .null, .null, .null, .null, .null, .null, .null, .null, .null, .null, .null, .null, .null, .null, .null, .null, .null, .null, .null, .int 0, .int 0, .null, .null, .null, .null]), (xI 8), (xI 192), (xI 192), (xI 192), (xJ 192), (xJ 192), (xI 192)]) rfl ?_
  refine wPut 66 i143_63 p143_33 rfl (by decide) rfl rfl rfl ?_
  refine tHeap (h' := [c0, c1, c2, c3, c4, c5, c6, c7, c8, c9, c10, c11, c12, c13, c14, c15, c16, c17, c18, c19, c20, c21, c22, c23, c24, c25, c26, c27, c28, c29, c30, c31, c32, c33, c34, c35, c36, c37, c38, c39, c40, c41, c42, c43, c44, c45, c46, c47, c48, c49, c50, c51, c52, c53, c54, c55, c56, c57, c58, c59, c60, c61, c62, c63, c64, c65, c66, c67, c68, c69, c70, c71, c72, c73, c74, c75, c76, .inr (7, [.int 0, .ref 78, .ref 79, .ref 80, .ref 81, .ref 82, .ref 83, .ref 84, .null, .int 0, .null, .null, .null, .null, .null, .null, .null, .null, .null, .int 0, .int 0, .int 0, .int 0, .int 0, .int 0, .int 0, .int 0, .null, .null, .null, .null, .null, .null, .null, .null, .int 0, .int 0, .int 0, .long 0, .int 0, .null, .null, .null, .null, .null, .null, .null, .null, .null, .null, .null, .null, .null, .null, .null, .null, .null, .null, .null, .null, .null, .null, .null, .int 0, .int 0, .null, .null, .null, .null]), (xI 8), (xI 192), (xI 192), (xI 192), (xJ 192), (xJ 192), (xI 192)]) rfl ?_
  refine wLan 67 i143_66 rfl rfl ?_
  refine wKs 70 1536 i143_67 (by decide) rfl ?_
  refine eNewA (n := 85) (N := 1536) (c := (xJ 1536)) 45 122060 44 120524 i143_70 (by decide) (by decide) rfl rfl rfl rfl ?_
  refine tHeap (h' := [c0, c1, c2, c3, c4, c5, c6, c7, c8, c9, c10, c11, c12, c13, c14, c15, c16, c17, c18, c19, c20, c21, c22, c23, c24, c25, c26, c27, c28, c29, c30, c31, c32, c33, c34, c35, c36, c37, c38, c39, c40, c41, c42, c43, c44, c45, c46, c47, c48, c49, c50, c51, c52, c53, c54, c55, c56, c57, c58, c59, c60, c61, c62, c63, c64, c65, c66, c67, c68, c69, c70, c71, c72, c73, c74, c75, c76, .inr (7, [.int 0, .ref 78, .ref 79, .ref 80, .ref 81, .ref 82, .ref 83, .ref 84, .null, .int 0, .null, .null, .null, .null, .null, .null, .null, .null, .null, .int 0, .int 0, .int 0, .int 0, .int 0, .int 0, .int 0, .int 0, .null, .null, .null, .null, .null, .null, .null, .null, .int 0, .int 0, .int 0, .long 0, .int 0, .null, .null, .null, .null, .null, .null, .null, .null, .null, .null, .null, .null, .null, .null, .null, .null, .null, .null, .null, .null, .null, .null, .null, .int 0, .int 0, .null, .null, .null, .null]), (xI 8), (xI 192), (xI 192), (xI 192), (xJ 192), (xJ 192), (xI 192), (xJ 1536)]) rfl ?_
  refine wPut 75 i143_72 p143_36 rfl (by decide) rfl rfl rfl ?_
  refine tHeap (h' := [c0, c1, c2, c3, c4, c5, c6, c7, c8, c9, c10, c11, c12, c13, c14, c15, c16, c17, c18, c19, c20, c21, c22, c23, c24, c25, c26, c27, c28, c29, c30, c31, c32, c33, c34, c35, c36, c37, c38, c39, c40, c41, c42, c43, c44, c45, c46, c47, c48, c49, c50, c51, c52, c53, c54, c55, c56, c57, c58, c59, c60, c61, c62, c63, c64, c65, c66, c67, c68, c69, c70, c71, c72, c73, c74, c75, c76, .inr (7, [.int 0, .ref 78, .ref 79, .ref 80, .ref 81, .ref 82, .ref 83, .ref 84, .ref 85, .int 0, .null, .null, .null, .null, .null, .null, .null, .null, .null, .int 0, .int 0, .int 0, .int 0, .int 0, .int 0, .int 0, .int 0, .null, .null, .null, .null, .null, .null, .null, .null, .int 0, .int 0, .int 0, .long 0, .int 0, .null, .null, .null, .null, .null, .null, .null, .null, .null, .null, .null, .null, .null, .null, .null, .null, .null, .null, .null, .null, .null, .null, .null, .int 0, .int 0, .null, .null, .null, .null]), (xI 8), (xI 192), (xI 192), (xI 192), (xJ 192), (xJ 192), (xI 192), (xJ 1536)]) rfl ?_
  refine wLan 76 i143_75 rfl rfl ?_
  refine wKb 78 99 i143_76 (by decide) rfl ?_
  refine wPut 81 i143_78 p143_39 rfl (by decide) rfl rfl rfl ?_
  refine tHeap (h' := [c0, c1, c2, c3, c4, c5, c6, c7, c8, c9, c10, c11, c12, c13, c14, c15, c16, c17, c18, c19, c20, c21, c22, c23, c24, c25, c26, c27, c28, c29, c30, c31, c32, c33, c34, c35, c36, c37, c38, c39, c40, c41, c42, c43, c44, c45, c46, c47, c48, c49, c50, c51, c52, c53, c54, c55, c56, c57, c58, c59, c60, c61, c62, c63, c64, c65, c66, c67, c68, c69, c70, c71, c72, c73, c74, c75, c76, .inr (7, [.int 0, .ref 78, .ref 79, .ref 80, .ref 81, .ref 82, .ref 83, .ref 84, .ref 85, .int 99, .null, .null, .null, .null, .null, .null, .null, .null, .null, .int 0, .int 0, .int 0, .int 0, .int 0, .int 0, .int 0, .int 0, .null, .null, .null, .null, .null, .null, .null, .null, .int 0, .int 0, .int 0, .long 0, .int 0, .null, .null, .null, .null, .null, .null, .null, .null, .null, .null, .null, .null, .null, .null, .null, .null, .null, .null, .null, .null, .null, .null, .null, .int 0, .int 0, .null, .null, .null, .null]), (xI 8), (xI 192), (xI 192), (xI 192), (xJ 192), (xJ 192), (xI 192), (xJ 1536)]) rfl ?_
  refine wLan 82 i143_81 rfl rfl ?_
  refine wKs 85 192 i143_82 (by decide) rfl ?_
  refine eNewA (n := 86) (N := 192) (c := (xI 192)) 44 120524 43 120332 i143_85 (by decide) (by decide) rfl rfl rfl rfl ?_
  refine tHeap (h' := [c0, c1, c2, c3, c4, c5, c6, c7, c8, c9, c10, c11, c12, c13, c14, c15, c16, c17, c18, c19, c20, c21, c22, c23, c24, c25, c26, c27, c28, c29, c30, c31, c32, c33, c34, c35, c36, c37, c38, c39, c40, c41, c42, c43, c44, c45, c46, c47, c48, c49, c50, c51, c52, c53, c54, c55, c56, c57, c58, c59, c60, c61, c62, c63, c64, c65, c66, c67, c68, c69, c70, c71, c72, c73, c74, c75, c76, .inr (7, [.int 0, .ref 78, .ref 79, .ref 80, .ref 81, .ref 82, .ref 83, .ref 84, .ref 85, .int 99, .null, .null, .null, .null, .null, .null, .null, .null, .null, .int 0, .int 0, .int 0, .int 0, .int 0, .int 0, .int 0, .int 0, .null, .null, .null, .null, .null, .null, .null, .null, .int 0, .int 0, .int 0, .long 0, .int 0, .null, .null, .null, .null, .null, .null, .null, .null, .null, .null, .null, .null, .null, .null, .null, .null, .null, .null, .null, .null, .null, .null, .null, .int 0, .int 0, .null, .null, .null, .null]), (xI 8), (xI 192), (xI 192), (xI 192), (xJ 192), (xJ 192), (xI 192), (xJ 1536), (xI 192)]) rfl ?_
  refine wPut 90 i143_87 p143_42 rfl (by decide) rfl rfl rfl ?_
  refine tHeap (h' := [c0, c1, c2, c3, c4, c5, c6, c7, c8, c9, c10, c11, c12, c13, c14, c15, c16, c17, c18, c19, c20, c21, c22, c23, c24, c25, c26, c27, c28, c29, c30, c31, c32, c33, c34, c35, c36, c37, c38, c39, c40, c41, c42, c43, c44, c45, c46, c47, c48, c49, c50, c51, c52, c53, c54, c55, c56, c57, c58, c59, c60, c61, c62, c63, c64, c65, c66, c67, c68, c69, c70, c71, c72, c73, c74, c75, c76, .inr (7, [.int 0, .ref 78, .ref 79, .ref 80, .ref 81, .ref 82, .ref 83, .ref 84, .ref 85, .int 99, .ref 86, .null, .null, .null, .null, .null, .null, .null, .null, .int 0, .int 0, .int 0, .int 0, .int 0, .int 0, .int 0, .int 0, .null, .null, .null, .null, .null, .null, .null, .null, .int 0, .int 0, .int 0, .long 0, .int 0, .null, .null, .null, .null, .null, .null, .null, .null, .null, .null, .null, .null, .null, .null, .null, .null, .null, .null, .null, .null, .null, .null, .null, .int 0, .int 0, .null, .null, .null, .null]), (xI 8), (xI 192), (xI 192), (xI 192), (xJ 192), (xJ 192), (xI 192), (xJ 1536), (xI 192)]) rfl ?_
  refine wLan 91 i143_90 rfl rfl ?_
  refine wKs 94 192 i143_91 (by decide) rfl ?_
  refine eNewA (n := 87) (N := 192) (c := (xI 192)) 43 120332 42 120140 i143_94 (by decide) (by decide) rfl rfl rfl rfl ?_
  refine tHeap (h' := [c0, c1, c2, c3, c4, c5, c6, c7, c8, c9, c10, c11, c12, c13, c14, c15, c16, c17, c18, c19, c20, c21, c22, c23, c24, c25, c26, c27, c28, c29, c30, c31, c32, c33, c34, c35, c36, c37, c38, c39, c40, c41, c42, c43, c44, c45, c46, c47, c48, c49, c50, c51, c52, c53, c54, c55, c56, c57, c58, c59, c60, c61, c62, c63, c64, c65, c66, c67, c68, c69, c70, c71, c72, c73, c74, c75, c76, .inr (7, [.int 0, .ref 78, .ref 79, .ref 80, .ref 81, .ref 82, .ref 83, .ref 84, .ref 85, .int 99, .ref 86, .null, .null, .null, .null, .null, .null, .null, .null, .int 0, .int 0, .int 0, .int 0, .int 0, .int 0, .int 0, .int 0, .null, .null, .null, .null, .null, .null, .null, .null, .int 0, .int 0, .int 0, .long 0, .int 0, .null, .null, .null, .null, .null, .null, .null, .null, .null, .null, .null, .null, .null, .null, .null, .null, .null, .null, .null, .null, .null, .null, .null, .int 0, .int 0, .null, .null, .null, .null]), (xI 8), (xI 192), (xI 192), (xI 192), (xJ 192), (xJ 192), (xI 192), (xJ 1536), (xI 192), (xI 192)]) rfl ?_
  refine wPut 99 i143_96 p143_45 rfl (by decide) rfl rfl rfl ?_
  refine tHeap (h' := [c0, c1, c2, c3, c4, c5, c6, c7, c8, c9, c10, c11, c12, c13, c14, c15, c16, c17, c18, c19, c20, c21, c22, c23, c24, c25, c26, c27, c28, c29, c30, c31, c32, c33, c34, c35, c36, c37, c38, c39, c40, c41, c42, c43, c44, c45, c46, c47, c48, c49, c50, c51, c52, c53, c54, c55, c56, c57, c58, c59, c60, c61, c62, c63, c64, c65, c66, c67, c68, c69, c70, c71, c72, c73, c74, c75, c76, .inr (7, [.int 0, .ref 78, .ref 79, .ref 80, .ref 81, .ref 82, .ref 83, .ref 84, .ref 85, .int 99, .ref 86, .ref 87, .null, .null, .null, .null, .null, .null, .null, .int 0, .int 0, .int 0, .int 0, .int 0, .int 0, .int 0, .int 0, .null, .null, .null, .null, .null, .null, .null, .null, .int 0, .int 0, .int 0, .long 0, .int 0, .null, .null, .null, .null, .null, .null, .null, .null, .null, .null, .null, .null, .null, .null, .null, .null, .null, .null, .null, .null, .null, .null, .null, .int 0, .int 0, .null, .null, .null, .null]), (xI 8), (xI 192), (xI 192), (xI 192), (xJ 192), (xJ 192), (xI 192), (xJ 1536), (xI 192), (xI 192)]) rfl ?_
  refine wLan 100 i143_99 rfl rfl ?_
  refine wKs 103 192 i143_100 (by decide) rfl ?_
  refine eNewA (n := 88) (N := 192) (c := (xZ 192)) 42 120140 41 119948 i143_103 (by decide) (by decide) rfl rfl rfl rfl ?_
  refine tHeap (h' := [c0, c1, c2, c3, c4, c5, c6, c7, c8, c9, c10, c11, c12, c13, c14, c15, c16, c17, c18, c19, c20, c21, c22, c23, c24, c25, c26, c27, c28, c29, c30, c31, c32, c33, c34, c35, c36, c37, c38, c39, c40, c41, c42, c43, c44, c45, c46, c47, c48, c49, c50, c51, c52, c53, c54, c55, c56, c57, c58, c59, c60, c61, c62, c63, c64, c65, c66, c67, c68, c69, c70, c71, c72, c73, c74, c75, c76, .inr (7, [.int 0, .ref 78, .ref 79, .ref 80, .ref 81, .ref 82, .ref 83, .ref 84, .ref 85, .int 99, .ref 86, .ref 87, .null, .null, .null, .null, .null, .null, .null, .int 0, .int 0, .int 0, .int 0, .int 0, .int 0, .int 0, .int 0, .null, .null, .null, .null, .null, .null, .null, .null, .int 0, .int 0, .int 0, .long 0, .int 0, .null, .null, .null, .null, .null, .null, .null, .null, .null, .null, .null, .null, .null, .null, .null, .null, .null, .null, .null, .null, .null, .null, .null, .int 0, .int 0, .null, .null, .null, .null]), (xI 8), (xI 192), (xI 192), (xI 192), (xJ 192), (xJ 192), (xI 192), (xJ 1536), (xI 192), (xI 192), (xZ 192)]) rfl ?_
  refine wPut 108 i143_105 p143_48 rfl (by decide) rfl rfl rfl ?_
  refine tHeap (h' := [c0, c1, c2, c3, c4, c5, c6, c7, c8, c9, c10, c11, c12, c13, c14, c15, c16, c17, c18, c19, c20, c21, c22, c23, c24, c25, c26, c27, c28, c29, c30, c31, c32, c33, c34, c35, c36, c37, c38, c39, c40, c41, c42, c43, c44, c45, c46, c47, c48, c49, c50, c51, c52, c53, c54, c55, c56, c57, c58, c59, c60, c61, c62, c63, c64, c65, c66, c67, c68, c69, c70, c71, c72, c73, c74, c75, c76, .inr (7, [.int 0, .ref 78, .ref 79, .ref 80, .ref 81, .ref 82, .ref 83, .ref 84, .ref 85, .int 99, .ref 86, .ref 87, .ref 88, .null, .null, .null, .null, .null, .null, .int 0, .int 0, .int 0, .int 0, .int 0, .int 0, .int 0, .int 0, .null, .null, .null, .null, .null, .null, .null, .null, .int 0, .int 0, .int 0, .long 0, .int 0, .null, .null, .null, .null, .null, .null, .null, .null, .null, .null, .null, .null, .null, .null, .null, .null, .null, .null, .null, .null, .null, .null, .null, .int 0, .int 0, .null, .null, .null, .null]), (xI 8), (xI 192), (xI 192), (xI 192), (xJ 192), (xJ 192), (xI 192), (xJ 1536), (xI 192), (xI 192), (xZ 192)]) rfl ?_
  refine wLan 109 i143_108 rfl rfl ?_
  refine wKs 112 192 i143_109 (by decide) rfl ?_
  refine eNewA (n := 89) (N := 192) (c := (xI 192)) 41 119948 40 119756 i143_112 (by decide) (by decide) rfl rfl rfl rfl ?_
  refine tHeap (h' := [c0, c1, c2, c3, c4, c5, c6, c7, c8, c9, c10, c11, c12, c13, c14, c15, c16, c17, c18, c19, c20, c21, c22, c23, c24, c25, c26, c27, c28, c29, c30, c31, c32, c33, c34, c35, c36, c37, c38, c39, c40, c41, c42, c43, c44, c45, c46, c47, c48, c49, c50, c51, c52, c53, c54, c55, c56, c57, c58, c59, c60, c61, c62, c63, c64, c65, c66, c67, c68, c69, c70, c71, c72, c73, c74, c75, c76, .inr (7, [.int 0, .ref 78, .ref 79, .ref 80, .ref 81, .ref 82, .ref 83, .ref 84, .ref 85, .int 99, .ref 86, .ref 87, .ref 88, .null, .null, .null, .null, .null, .null, .int 0, .int 0, .int 0, .int 0, .int 0, .int 0, .int 0, .int 0, .null, .null, .null, .null, .null, .null, .null, .null, .int 0, .int 0, .int 0, .long 0, .int 0, .null, .null, .null, .null, .null, .null, .null, .null, .null, .null, .null, .null, .null, .null, .null, .null, .null, .null, .null, .null, .null, .null, .null, .int 0, .int 0, .null, .null, .null, .null]), (xI 8), (xI 192), (xI 192), (xI 192), (xJ 192), (xJ 192), (xI 192), (xJ 1536), (xI 192), (xI 192), (xZ 192), (xI 192)]) rfl ?_
  refine wPut 117 i143_114 p143_52 rfl (by decide) rfl rfl rfl ?_
  refine tHeap (h' := [c0, c1, c2, c3, c4, c5, c6, c7, c8, c9, c10, c11, c12, c13, c14, c15, c16, c17, c18, c19, c20, c21, c22, c23, c24, c25, c26, c27, c28, c29, c30, c31, c32, c33, c34, c35, c36, c37, c38, c39, c40, c41, c42, c43, c44, c45, c46, c47, c48, c49, c50, c51, c52, c53, c54, c55, c56, c57, c58, c59, c60, c61, c62, c63, c64, c65, c66, c67, c68, c69, c70, c71, c72, c73, c74, c75, c76, .inr (7, [.int 0, .ref 78, .ref 79, .ref 80, .ref 81, .ref 82, .ref 83, .ref 84, .ref 85, .int 99, .ref 86, .ref 87, .ref 88, .ref 89, .null, .null, .null, .null, .null, .int 0, .int 0, .int 0, .int 0, .int 0, .int 0, .int 0, .int 0, .null, .null, .null, .null, .null, .null, .null, .null, .int 0, .int 0, .int 0, .long 0, .int 0, .null, .null, .null, .null, .null, .null, .null, .null, .null, .null, .null, .null, .null, .null, .null, .null, .null, .null, .null, .null, .null, .null, .null, .int 0, .int 0, .null, .null, .null, .null]), (xI 8), (xI 192), (xI 192), (xI 192), (xJ 192), (xJ 192), (xI 192), (xJ 1536), (xI 192), (xI 192), (xZ 192), (xI 192)]) rfl ?_
  refine wLan 118 i143_117 rfl rfl ?_
  refine wKs 121 192 i143_118 (by decide) rfl ?_
  refine eNewA (n := 90) (N := 192) (c := (xI 192)) 40 119756 39 119564 i143_121 (by decide) (by decide) rfl rfl rfl rfl ?_
  refine tHeap (h' := [c0, c1, c2, c3, c4, c5, c6, c7, c8, c9, c10, c11, c12, c13, c14, c15, c16, c17, c18, c19, c20, c21, c22, c23, c24, c25, c26, c27, c28, c29, c30, c31, c32, c33, c34, c35, c36, c37, c38, c39, c40, c41, c42, c43, c44, c45, c46, c47, c48, c49, c50, c51, c52, c53, c54, c55, c56, c57, c58, c59, c60, c61, c62, c63, c64, c65, c66, c67, c68, c69, c70, c71, c72, c73, c74, c75, c76, .inr (7, [.int 0, .ref 78, .ref 79, .ref 80, .ref 81, .ref 82, .ref 83, .ref 84, .ref 85, .int 99, .ref 86, .ref 87, .ref 88, .ref 89, .null, .null, .null, .null, .null, .int 0, .int 0, .int 0, .int 0, .int 0, .int 0, .int 0, .int 0, .null, .null, .null, .null, .null, .null, .null, .null, .int 0, .int 0, .int 0, .long 0, .int 0, .null, .null, .null, .null, .null, .null, .null, .null, .null, .null, .null, .null, .null, .null, .null, .null, .null, .null, .null, .null, .null, .null, .null, .int 0, .int 0, .null, .null, .null, .null]), (xI 8), (xI 192), (xI 192), (xI 192), (xJ 192), (xJ 192), (xI 192), (xJ 1536), (xI 192), (xI 192), (xZ 192), (xI 192), (xI 192)]) rfl ?_
  refine wPut 126 i143_123 p143_55 rfl (by decide) rfl rfl rfl ?_
  refine tHeap (h' := [c0, c1, c2, c3, c4, c5, c6, c7, c8, c9, c10, c11, c12, c13, c14, c15, c16, c17, c18, c19, c20, c21, c22, c23, c24, c25, c26, c27, c28, c29, c30, c31, c32, c33, c34, c35, c36, c37, c38, c39, c40, c41, c42, c43, c44, c45, c46, c47, c48, c49, c50, c51, c52, c53, c54, c55, c56, c57, c58, c59, c60, c61, c62, c63, c64, c65, c66, c67, c68, c69, c70, c71, c72, c73, c74, c75, c76, .inr (7, [.int 0, .ref 78, .ref 79, .ref 80, .ref 81, .ref 82, .ref 83, .ref 84, .ref 85, .int 99, .ref 86, .ref 87, .ref 88, .ref 89, .ref 90, .null, .null, .null, .null, .int 0, .int 0, .int 0, .int 0, .int 0, .int 0, .int 0, .int 0, .null, .null, .null, .null, .null, .null, .null, .null, .int 0, .int 0, .int 0, .long 0, .int 0, .null, .null, .null, .null, .null, .null, .null, .null, .null, .null, .null, .null, .null, .null, .null, .null, .null, .null, .null, .null, .null, .null, .null, .int 0, .int 0, .null, .null, .null, .null]), (xI 8), (xI 192), (xI 192), (xI 192), (xJ 192), (xJ 192), (xI 192), (xJ 1536), (xI 192), (xI 192), (xZ 192), (xI 192), (xI 192)]) rfl ?_
  refine wLan 127 i143_126 rfl rfl ?_
  refine wKs 130 12288 i143_127 (by decide) rfl ?_
  refine eNewA (n := 91) (N := 12288) (c := (xI 12288)) 39 119564 38 107276 i143_130 (by decide) (by decide) rfl rfl rfl rfl ?_
  refine tHeap (h' := [c0, c1, c2, c3, c4, c5, c6, c7, c8, c9, c10, c11, c12, c13, c14, c15, c16, c17, c18, c19, c20, c21, c22, c23, c24, c25, c26, c27, c28, c29, c30, c31, c32, c33, c34, c35, c36, c37, c38, c39, c40, c41, c42, c43, c44, c45, c46, c47, c48, c49, c50, c51, c52, c53, c54, c55, c56, c57, c58, c59, c60, c61, c62, c63, c64, c65, c66, c67, c68, c69, c70, c71, c72, c73, c74, c75, c76, .inr (7, [.int 0, .ref 78, .ref 79, .ref 80, .ref 81, .ref 82, .ref 83, .ref 84, .ref 85, .int 99, .ref 86, .ref 87, .ref 88, .ref 89, .ref 90, .null, .null, .null, .null, .int 0, .int 0, .int 0, .int 0, .int 0, .int 0, .int 0, .int 0, .null, .null, .null, .null, .null, .null, .null, .null, .int 0, .int 0, .int 0, .long 0, .int 0, .null, .null, .null, .null, .null, .null, .null, .null, .null, .null, .null, .null, .null, .null, .null, .null, .null, .null, .null, .null, .null, .null, .null, .int 0, .int 0, .null, .null, .null, .null]), (xI 8), (xI 192), (xI 192), (xI 192), (xJ 192), (xJ 192), (xI 192), (xJ 1536), (xI 192), (xI 192), (xZ 192), (xI 192), (xI 192), (xI 12288)]) rfl ?_
  refine wPut 135 i143_132 p143_58 rfl (by decide) rfl rfl rfl ?_
  refine tHeap (h' := [c0, c1, c2, c3, c4, c5, c6, c7, c8, c9, c10, c11, c12, c13, c14, c15, c16, c17, c18, c19, c20, c21, c22, c23, c24, c25, c26, c27, c28, c29, c30, c31, c32, c33, c34, c35, c36, c37, c38, c39, c40, c41, c42, c43, c44, c45, c46, c47, c48, c49, c50, c51, c52, c53, c54, c55, c56, c57, c58, c59, c60, c61, c62, c63, c64, c65, c66, c67, c68, c69, c70, c71, c72, c73, c74, c75, c76, .inr (7, [.int 0, .ref 78, .ref 79, .ref 80, .ref 81, .ref 82, .ref 83, .ref 84, .ref 85, .int 99, .ref 86, .ref 87, .ref 88, .ref 89, .ref 90, .ref 91, .null, .null, .null, .int 0, .int 0, .int 0, .int 0, .int 0, .int 0, .int 0, .int 0, .null, .null, .null, .null, .null, .null, .null, .null, .int 0, .int 0, .int 0, .long 0, .int 0, .null, .null, .null, .null, .null, .null, .null, .null, .null, .null, .null, .null, .null, .null, .null, .null, .null, .null, .null, .null, .null, .null, .null, .int 0, .int 0, .null, .null, .null, .null]), (xI 8), (xI 192), (xI 192), (xI 192), (xJ 192), (xJ 192), (xI 192), (xJ 1536), (xI 192), (xI 192), (xZ 192), (xI 192), (xI 192), (xI 12288)]) rfl ?_
  refine wLan 136 i143_135 rfl rfl ?_
  refine wKs 139 12288 i143_136 (by decide) rfl ?_
  refine eNewA (n := 92) (N := 12288) (c := (xJ 12288)) 38 107276 37 94988 i143_139 (by decide) (by decide) rfl rfl rfl rfl ?_
  refine tHeap (h' := [c0, c1, c2, c3, c4, c5, c6, c7, c8, c9, c10, c11, c12, c13, c14, c15, c16, c17, c18, c19, c20, c21, c22, c23, c24, c25, c26, c27, c28, c29, c30, c31, c32, c33, c34, c35, c36, c37, c38, c39, c40, c41, c42, c43, c44, c45, c46, c47, c48, c49, c50, c51, c52, c53, c54, c55, c56, c57, c58, c59, c60, c61, c62, c63, c64, c65, c66, c67, c68, c69, c70, c71, c72, c73, c74, c75, c76, .inr (7, [.int 0, .ref 78, .ref 79, .ref 80, .ref 81, .ref 82, .ref 83, .ref 84, .ref 85, .int 99, .ref 86, .ref 87, .ref 88, .ref 89, .ref 90, .ref 91, .null, .null, .null, .int 0, .int 0, .int 0, .int 0, .int 0, .int 0, .int 0, .int 0, .null, .null, .null, .null, .null, .null, .null, .null, .int 0, .int 0, .int 0, .long 0, .int 0, .null, .null, .null, .null, .null, .null, .null, .null, .null, .null, .null, .null, .null, .null, .null, .null, .null, .null, .null, .null, .null, .null, .null, .int 0, .int 0, .null, .null, .null, .null]), (xI 8), (xI 192), (xI 192), (xI 192), (xJ 192), (xJ 192), (xI 192), (xJ 1536), (xI 192), (xI 192), (xZ 192), (xI 192), (xI 192), (xI 12288), (xJ 12288)]) rfl ?_
  refine wPut 144 i143_141 p143_61 rfl (by decide) rfl rfl rfl ?_
  refine tHeap (h' := [c0, c1, c2, c3, c4, c5, c6, c7, c8, c9, c10, c11, c12, c13, c14, c15, c16, c17, c18, c19, c20, c21, c22, c23, c24, c25, c26, c27, c28, c29, c30, c31, c32, c33, c34, c35, c36, c37, c38, c39, c40, c41, c42, c43, c44, c45, c46, c47, c48, c49, c50, c51, c52, c53, c54, c55, c56, c57, c58, c59, c60, c61, c62, c63, c64, c65, c66, c67, c68, c69, c70, c71, c72, c73, c74, c75, c76, .inr (7, [.int 0, .ref 78, .ref 79, .ref 80, .ref 81, .ref 82, .ref 83, .ref 84, .ref 85, .int 99, .ref 86, .ref 87, .ref 88, .ref 89, .ref 90, .ref 91, .ref 92, .null, .null, .int 0, .int 0, .int 0, .int 0, .int 0, .int 0, .int 0, .int 0, .null, .null, .null, .null, .null, .null, .null, .null, .int 0, .int 0, .int 0, .long 0, .int 0, .null, .null, .null, .null, .null, .null, .null, .null, .null, .null, .null, .null, .null, .null, .null, .null, .null, .null, .null, .null, .null, .null, .null, .int 0, .int 0, .null, .null, .null, .null]), (xI 8), (xI 192), (xI 192), (xI 192), (xJ 192), (xJ 192), (xI 192), (xJ 1536), (xI 192), (xI 192), (xZ 192), (xI 192), (xI 192), (xI 12288), (xJ 12288)]) rfl ?_
  refine wLan 145 i143_144 rfl rfl ?_
  refine wKs 148 12288 i143_145 (by decide) rfl ?_
  refine eNewA (n := 93) (N := 12288) (c := (xI 12288)) 37 94988 36 82700 i143_148 (by decide) (by decide) rfl rfl rfl rfl ?_
  refine tHeap (h' := [c0, c1, c2, c3, c4, c5, c6, c7, c8, c9, c10, c11, c12, c13, c14, c15, c16, c17, c18, c19, c20, c21, c22, c23, c24, c25, c26, c27, c28, c29, c30, c31, c32, c33, c34, c35, c36, c37, c38, c39, c40, c41, c42, c43, c44, c45, c46, c47, c48, c49, c50, c51, c52, c53, c54, c55, c56, c57, c58, c59, c60, c61, c62, c63, c64, c65, c66, c67, c68, c69, c70, c71, c72, c73, c74, c75, c76, .inr (7, [.int 0, .ref 78, .ref 79, .ref 80, .ref 81, .ref 82, .ref 83, .ref 84, .ref 85, .int 99, .ref 86, .ref 87, .ref 88, .ref 89, .ref 90, .ref 91, .ref 92, .null, .null, .int 0, .int 0, .int 0, .int 0, .int 0, .int 0, .int 0, .int 0, .null, .null, .null, .null, .null, .null, .null, .null, .int 0, .int 0, .int 0, .long 0, .int 0, .null, .null, .null, .null, .null, .null, .null, .null, .null, .null, .null, .null, .null, .null, .null, .null, .null, .null, .null, .null, .null, .null, .null, .int 0, .int 0, .null, .null, .null, .null]), (xI 8), (xI 192), (xI 192), (xI 192), (xJ 192), (xJ 192), (xI 192), (xJ 1536), (xI 192), (xI 192), (xZ 192), (xI 192), (xI 192), (xI 12288), (xJ 12288), (xI 12288)]) rfl ?_
  refine wPut 153 i143_150 p143_64 rfl (by decide) rfl rfl rfl ?_
  refine tHeap (h' := [c0, c1, c2, c3, c4, c5, c6, c7, c8, c9, c10, c11, c12, c13, c14, c15, c16, c17, c18, c19, c20, c21, c22, c23, c24, c25, c26, c27, c28, c29, c30, c31, c32, c33, c34, c35, c36, c37, c38, c39, c40, c41, c42, c43, c44, c45, c46, c47, c48, c49, c50, c51, c52, c53, c54, c55, c56, c57, c58, c59, c60, c61, c62, c63, c64, c65, c66, c67, c68, c69, c70, c71, c72, c73, c74, c75, c76, .inr (7, [.int 0, .ref 78, .ref 79, .ref 80, .ref 81, .ref 82, .ref 83, .ref 84, .ref 85, .int 99, .ref 86, .ref 87, .ref 88, .ref 89, .ref 90, .ref 91, .ref 92, .ref 93, .null, .int 0, .int 0, .int 0, .int 0, .int 0, .int 0, .int 0, .int 0, .null, .null, .null, .null, .null, .null, .null, .null, .int 0, .int 0, .int 0, .long 0, .int 0, .null, .null, .null, .null, .null, .null, .null, .null, .null, .null, .null, .null, .null, .null, .null, .null, .null, .null, .null, .null, .null, .null, .null, .int 0, .int 0, .null, .null, .null, .null]), (xI 8), (xI 192), (xI 192), (xI 192), (xJ 192), (xJ 192), (xI 192), (xJ 1536), (xI 192), (xI 192), (xZ 192), (xI 192), (xI 192), (xI 12288), (xJ 12288), (xI 12288)]) rfl ?_
  refine wLan 154 i143_153 rfl rfl ?_
  refine wKb 156 120 i143_154 (by decide) rfl ?_
  refine eNewA (n := 94) (N := 120) (c := (xI 120)) 36 82700 35 82580 i143_156 (by decide) (by decide) rfl rfl rfl rfl ?_
  refine tHeap (h' := [c0, c1, c2, c3, c4, c5, c6, c7, c8, c9, c10, c11, c12, c13, c14, c15, c16, c17, c18, c19, c20, c21, c22, c23, c24, c25, c26, c27, c28, c29, c30, c31, c32, c33, c34, c35, c36, c37, c38, c39, c40, c41, c42, c43, c44, c45, c46, c47, c48, c49, c50, c51, c52, c53, c54, c55, c56, c57, c58, c59, c60, c61, c62, c63, c64, c65, c66, c67, c68, c69, c70, c71, c72, c73, c74, c75, c76, .inr (7, [.int 0, .ref 78, .ref 79, .ref 80, .ref 81, .ref 82, .ref 83, .ref 84, .ref 85, .int 99, .ref 86, .ref 87, .ref 88, .ref 89, .ref 90, .ref 91, .ref 92, .ref 93, .null, .int 0, .int 0, .int 0, .int 0, .int 0, .int 0, .int 0, .int 0, .null, .null, .null, .null, .null, .null, .null, .null, .int 0, .int 0, .int 0, .long 0, .int 0, .null, .null, .null, .null, .null, .null, .null, .null, .null, .null, .null, .null, .null, .null, .null, .null, .null, .null, .null, .null, .null, .null, .null, .int 0, .int 0, .null, .null, .null, .null]), (xI 8), (xI 192), (xI 192), (xI 192), (xJ 192), (xJ 192), (xI 192), (xJ 1536), (xI 192), (xI 192), (xZ 192), (xI 192), (xI 192), (xI 12288), (xJ 12288), (xI 12288), (xI 120)]) rfl ?_
  refine wPut 161 i143_158 p143_67 rfl (by decide) rfl rfl rfl ?_
  refine tHeap (h' := [c0, c1, c2, c3, c4, c5, c6, c7, c8, c9, c10, c11, c12, c13, c14, c15, c16, c17, c18, c19, c20, c21, c22, c23, c24, c25, c26, c27, c28, c29, c30, c31, c32, c33, c34, c35, c36, c37, c38, c39, c40, c41, c42, c43, c44, c45, c46, c47, c48, c49, c50, c51, c52, c53, c54, c55, c56, c57, c58, c59, c60, c61, c62, c63, c64, c65, c66, c67, c68, c69, c70, c71, c72, c73, c74, c75, c76, .inr (7, [.int 0, .ref 78, .ref 79, .ref 80, .ref 81, .ref 82, .ref 83, .ref 84, .ref 85, .int 99, .ref 86, .ref 87, .ref 88, .ref 89, .ref 90, .ref 91, .ref 92, .ref 93, .ref 94, .int 0, .int 0, .int 0, .int 0, .int 0, .int 0, .int 0, .int 0, .null, .null, .null, .null, .null, .null, .null, .null, .int 0, .int 0, .int 0, .long 0, .int 0, .null, .null, .null, .null, .null, .null, .null, .null, .null, .null, .null, .null, .null, .null, .null, .null, .null, .null, .null, .null, .null, .null, .null, .int 0, .int 0, .null, .null, .null, .null]), (xI 8), (xI 192), (xI 192), (xI 192), (xJ 192), (xJ 192), (xI 192), (xJ 1536), (xI 192), (xI 192), (xZ 192), (xI 192), (xI 192), (xI 12288), (xJ 12288), (xI 12288), (xI 120)]) rfl ?_
  refine wLan 162 i143_161 rfl rfl ?_
  refine wKb 164 24 i143_162 (by decide) rfl ?_
  refine eNewA (n := 95) (N := 24) (c := (xI 24)) 35 82580 34 82556 i143_164 (by decide) (by decide) rfl rfl rfl rfl ?_
  refine tHeap (h' := [c0, c1, c2, c3, c4, c5, c6, c7, c8, c9, c10, c11, c12, c13, c14, c15, c16, c17, c18, c19, c20, c21, c22, c23, c24, c25, c26, c27, c28, c29, c30, c31, c32, c33, c34, c35, c36, c37, c38, c39, c40, c41, c42, c43, c44, c45, c46, c47, c48, c49, c50, c51, c52, c53, c54, c55, c56, c57, c58, c59, c60, c61, c62, c63, c64, c65, c66, c67, c68, c69, c70, c71, c72, c73, c74, c75, c76, .inr (7, [.int 0, .ref 78, .ref 79, .ref 80, .ref 81, .ref 82, .ref 83, .ref 84, .ref 85, .int 99, .ref 86, .ref 87, .ref 88, .ref 89, .ref 90, .ref 91, .ref 92, .ref 93, .ref 94, .int 0, .int 0, .int 0, .int 0, .int 0, .int 0, .int 0, .int 0, .null, .null, .null, .null, .null, .null, .null, .null, .int 0, .int 0, .int 0, .long 0, .int 0, .null, .null, .null, .null, .null, .null, .null, .null, .null, .null, .null, .null, .null, .null, .null, .null, .null, .null, .null, .null, .null, .null, .null, .int 0, .int 0, .null, .null, .null, .null]), (xI 8), (xI 192), (xI 192), (xI 192), (xJ 192), (xJ 192), (xI 192), (xJ 1536), (xI 192), (xI 192), (xZ 192), (xI 192), (xI 192), (xI 12288), (xJ 12288), (xI 12288), (xI 120), (xI 24)]) rfl ?_
  refine wPut 169 i143_166 p143_70 rfl (by decide) rfl rfl rfl ?_
  refine tHeap (h' := [c0, c1, c2, c3, c4, c5, c6, c7, c8, c9, c10, c11, c12, c13, c14, c15, c16, c17, c18, c19, c20, c21, c22, c23, c24, c25, c26, c27, c28, c29, c30, c31, c32, c33, c34, c35, c36, c37, c38, c39, c40, c41, c42, c43, c44, c45, c46, c47, c48, c49, c50, c51, c52, c53, c54, c55, c56, c57, c58, c59, c60, c61, c62, c63, c64, c65, c66, c67, c68, c69, c70, c71, c72, c73, c74, c75, c76, .inr (7, [.int 0, .ref 78, .ref 79, .ref 80, .ref 81, .ref 82, .ref 83, .ref 84, .ref 85, .int 99, .ref 86, .ref 87, .ref 88, .ref 89, .ref 90, .ref 91, .ref 92, .ref 93, .ref 94, .int 0, .int 0, .int 0, .int 0, .int 0, .int 0, .int 0, .int 0, .ref 95, .null, .null, .null, .null, .null, .null, .null, .int 0, .int 0, .int 0, .long 0, .int 0, .null, .null, .null, .null, .null, .null, .null, .null, .null, .null, .null, .null, .null, .null, .null, .null, .null, .null, .null, .null, .null, .null, .null, .int 0, .int 0, .null, .null, .null, .null]), (xI 8), (xI 192), (xI 192), (xI 192), (xJ 192), (xJ 192), (xI 192), (xJ 1536), (xI 192), (xI 192), (xZ 192), (xI 192), (xI 192), (xI 12288), (xJ 12288), (xI 12288), (xI 120), (xI 24)]) rfl ?_
  refine wLan 170 i143_169 rfl rfl ?_
  refine wKb 172 24 i143_170 (by decide) rfl ?_
  refine eNewA (n := 96) (N := 24) (c := (xI 24)) 34 82556 33 82532 i143_172 (by decide) (by decide) rfl rfl rfl rfl ?_
  refine tHeap (h' := [c0, c1, c2, c3, c4, c5, c6, c7, c8, c9, c10, c11, c12, c13, c14, c15, c16, c17, c18, c19, c20, c21, c22, c23, c24, c25, c26, c27, c28, c29, c30, c31, c32, c33, c34, c35, c36, c37, c38, c39, c40, c41, c42, c43, c44, c45, c46, c47, c48, c49, c50, c51, c52, c53, c54, c55, c56, c57, c58, c59, c60, c61, c62, c63, c64, c65, c66, c67, c68, c69, c70, c71, c72, c73, c74, c75, c76, .inr (7, [.int 0, .ref 78, .ref 79, .ref 80, .ref 81, .ref 82, .ref 83, .ref 84, .ref 85, .int 99, .ref 86, .ref 87, .ref 88, .ref 89, .ref 90, .ref 91, .ref 92, .ref 93, .ref 94, .int 0, .int 0, .int 0, .int 0, .int 0, .int 0, .int 0, .int 0, .ref 95, .null, .null, .null, .null, .null, .null, .null, .int 0, .int 0, .int 0, .long 0, .int 0, .null, .null, .null, .null, .null, .null, .null, .null, .null, .null, .null, .null, .null, .null, .null, .null, .null, .null, .null, .null, .null, .null, .null, .int 0, .int 0, .null, .null, .null, .null]), (xI 8), (xI 192), (xI 192), (xI 192), (xJ 192), (xJ 192), (xI 192), (xJ 1536), (xI 192), (xI 192), (xZ 192), (xI 192), (xI 192), (xI 12288), (xJ 12288), (xI 12288), (xI 120), (xI 24), (xI 24)]) rfl ?_
  refine wPut 177 i143_174 p143_73 rfl (by decide) rfl rfl rfl ?_
  refine tHeap (h' := [c0, c1, c2, c3, c4, c5, c6, c7, c8, c9, c10, c11, c12, c13, c14, c15, c16, c17, c18, c19, c20, c21, c22, c23, c24, c25, c26, c27, c28, c29, c30, c31, c32, c33, c34, c35, c36, c37, c38, c39, c40, c41, c42, c43, c44, c45, c46, c47, c48, c49, c50, c51, c52, c53, c54, c55, c56, c57, c58, c59, c60, c61, c62, c63, c64, c65, c66, c67, c68, c69, c70, c71, c72, c73, c74, c75, c76, .inr (7, [.int 0, .ref 78, .ref 79, .ref 80, .ref 81, .ref 82, .ref 83, .ref 84, .ref 85, .int 99, .ref 86, .ref 87, .ref 88, .ref 89, .ref 90, .ref 91, .ref 92, .ref 93, .ref 94, .int 0, .int 0, .int 0, .int 0, .int 0, .int 0, .int 0, .int 0, .ref 95, .ref 96, .null, .null, .null, .null, .null, .null, .int 0, .int 0, .int 0, .long 0, .int 0, .null, .null, .null, .null, .null, .null, .null, .null, .null, .null, .null, .null, .null, .null, .null, .null, .null, .null, .null, .null, .null, .null, .null, .int 0, .int 0, .null, .null, .null, .null]), (xI 8), (xI 192), (xI 192), (xI 192), (xJ 192), (xJ 192), (xI 192), (xJ 1536), (xI 192), (xI 192), (xZ 192), (xI 192), (xI 192), (xI 12288), (xJ 12288), (xI 12288), (xI 120), (xI 24), (xI 24)]) rfl ?_
  refine wLan 178 i143_177 rfl rfl ?_
  refine wKb 180 24 i143_178 (by decide) rfl ?_
  refine eNewA (n := 97) (N := 24) (c := (xI 24)) 33 82532 32 82508 i143_180 (by decide) (by decide) rfl rfl rfl rfl ?_
  refine tHeap (h' := [c0, c1, c2, c3, c4, c5, c6, c7, c8, c9, c10, c11, c12, c13, c14, c15, c16, c17, c18, c19, c20, c21, c22, c23, c24, c25, c26, c27, c28, c29, c30, c31, c32, c33, c34, c35, c36, c37, c38, c39, c40, c41, c42, c43, c44, c45, c46, c47, c48, c49, c50, c51, c52, c53, c54, c55, c56, c57, c58, c59, c60, c61, c62, c63, c64, c65, c66, c67, c68, c69, c70, c71, c72, c73, c74, c75, c76, .inr (7, [.int 0, .ref 78, .ref 79, .ref 80, .ref 81, .ref 82, .ref 83, .ref 84, .ref 85, .int 99, .ref 86, .ref 87, .ref 88, .ref 89, .ref 90, .ref 91, .ref 92, .ref 93, .ref 94, .int 0, .int 0, .int 0, .int 0, .int 0, .int 0, .int 0, .int 0, .ref 95, .ref 96, .null, .null, .null, .null, .null, .null, .int 0, .int 0, .int 0, .long 0, .int 0, .null, .null, .null, .null, .null, .null, .null, .null, .null, .null, .null, .null, .null, .null, .null, .null, .null, .null, .null, .null, .null, .null, .null, .int 0, .int 0, .null, .null, .null, .null]), (xI 8), (xI 192), (xI 192), (xI 192), (xJ 192), (xJ 192), (xI 192), (xJ 1536), (xI 192), (xI 192), (xZ 192), (xI 192), (xI 192), (xI 12288), (xJ 12288), (xI 12288), (xI 120), (xI 24), (xI 24), (xI 24)]) rfl ?_
  refine wPut 185 i143_182 p143_76 rfl (by decide) rfl rfl rfl ?_
  refine tHeap (h' := [c0, c1, c2, c3, c4, c5, c6, c7, c8, c9, c10, c11, c12, c13, c14, c15, c16, c17, c18, c19, c20, c21, c22, c23, c24, c25, c26, c27, c28, c29, c30, c31, c32, c33, c34, c35, c36, c37, c38, c39, c40, c41, c42, c43, c44, c45, c46, c47, c48, c49, c50, c51, c52, c53, c54, c55, c56, c57, c58, c59, c60, c61, c62, c63, c64, c65, c66, c67, c68, c69, c70, c71, c72, c73, c74, c75, c76, .inr (7, [.int 0, .ref 78, .ref 79, .ref 80, .ref 81, .ref 82, .ref 83, .ref 84, .ref 85, .int 99, .ref 86, .ref 87, .ref 88, .ref 89, .ref 90, .ref 91, .ref 92, .ref 93, .ref 94, .int 0, .int 0, .int 0, .int 0, .int 0, .int 0, .int 0, .int 0, .ref 95, .ref 96, .ref 97, .null, .null, .null, .null, .null, .int 0, .int 0, .int 0, .long 0, .int 0, .null, .null, .null, .null, .null, .null, .null, .null, .null, .null, .null, .null, .null, .null, .null, .null, .null, .null, .null, .null, .null, .null, .null, .int 0, .int 0, .null, .null, .null, .null]), (xI 8), (xI 192), (xI 192), (xI 192), (xJ 192), (xJ 192), (xI 192), (xJ 1536), (xI 192), (xI 192), (xZ 192), (xI 192), (xI 192), (xI 12288), (xJ 12288), (xI 12288), (xI 120), (xI 24), (xI 24), (xI 24)]) rfl ?_
  refine wLan 186 i143_185 rfl rfl ?_
  refine wKb 188 24 i143_186 (by decide) rfl ?_
  refine eNewA (n := 98) (N := 24) (c := (xJ 24)) 32 82508 31 82484 i143_188 (by decide) (by decide) rfl rfl rfl rfl ?_
  refine tHeap (h' := [c0, c1, c2, c3, c4, c5, c6, c7, c8, c9, c10, c11, c12, c13, c14, c15, c16, c17, c18, c19, c20, c21, c22, c23, c24, c25, c26, c27, c28, c29, c30, c31, c32, c33, c34, c35, c36, c37, c38, c39, c40, c41, c42, c43, c44, c45, c46, c47, c48, c49, c50, c51, c52, c53, c54, c55, c56, c57, c58, c59, c60, c61, c62, c63, c64, c65, c66, c67, c68, c69, c70, c71, c72, c73, c74, c75, c76, .inr (7, [.int 0, .ref 78, .ref 79, .ref 80, .ref 81, .ref 82, .ref 83, .ref 84, .ref 85, .int 99, .ref 86, .ref 87, .ref 88, .ref 89, .ref 90, .ref 91, .ref 92, .ref 93, .ref 94, .int 0, .int 0, .int 0, .int 0, .int 0, .int 0, .int 0, .int 0, .ref 95, .ref 96, .ref 97, .null, .null, .null, .null, .null, .int 0, .int 0, .int 0, .long 0, .int 0, .null, .null, .null, .null, .null, .null, .null, .null, .null, .null, .null, .null, .null, .null, .null, .null, .null, .null, .null, .null, .null, .null, .null, .int 0, .int 0, .null, .null, .null, .null]), (xI 8), (xI 192), (xI 192), (xI 192), (xJ 192), (xJ 192), (xI 192), (xJ 1536), (xI 192), (xI 192), (xZ 192), (xI 192), (xI 192), (xI 12288), (xJ 12288), (xI 12288), (xI 120), (xI 24), (xI 24), (xI 24), (xJ 24)]) rfl ?_
  refine wPut 193 i143_190 p143_79 rfl (by decide) rfl rfl rfl ?_
  refine tHeap (h' := [c0, c1, c2, c3, c4, c5, c6, c7, c8, c9, c10, c11, c12, c13, c14, c15, c16, c17, c18, c19, c20, c21, c22, c23, c24, c25, c26, c27, c28, c29, c30, c31, c32, c33, c34, c35, c36, c37, c38, c39, c40, c41, c42, c43, c44, c45, c46, c47, c48, c49, c50, c51, c52, c53, c54, c55, c56, c57, c58, c59, c60, c61, c62, c63, c64, c65, c66, c67, c68, c69, c70, c71, c72, c73, c74, c75, c76, .inr (7, [.int 0, .ref 78, .ref 79, .ref 80, .ref 81, .ref 82, .ref 83, .ref 84, .ref 85, .int 99, .ref 86, .ref 87, .ref 88, .ref 89, .ref 90, .ref 91, .ref 92, .ref 93, .ref 94, .int 0, .int 0, .int 0, .int 0, .int 0, .int 0, .int 0, .int 0, .ref 95, .ref 96, .ref 97, .ref 98, .null, .null, .null, .null, .int 0, .int 0, .int 0, .long 0, .int 0, .null, .null, .null, .null, .null, .null, .null, .null, .null, .null, .null, .null, .null, .null, .null, .null, .null, .null, .null, .null, .null, .null, .null, .int 0, .int 0, .null, .null, .null, .null]), (xI 8), (xI 192), (xI 192), (xI 192), (xJ 192), (xJ 192), (xI 192), (xJ 1536), (xI 192), (xI 192), (xZ 192), (xI 192), (xI 192), (xI 12288), (xJ 12288), (xI 12288), (xI 120), (xI 24), (xI 24), (xI 24), (xJ 24)]) rfl ?_
  refine wLan 194 i143_193 rfl rfl ?_
  refine wKb 196 24 i143_194 (by decide) rfl ?_
  refine eNewA (n := 99) (N := 24) (c := (xJ 24)) 31 82484 30 82460 i143_196 (by decide) (by decide) rfl rfl rfl rfl ?_
  refine tHeap (h' := [c0, c1, c2, c3, c4, c5, c6, c7, c8, c9, c10, c11, c12, c13, c14, c15, c16, c17, c18, c19, c20, c21, c22, c23, c24, c25, c26, c27, c28, c29, c30, c31, c32, c33, c34, c35, c36, c37, c38, c39, c40, c41, c42, c43, c44, c45, c46, c47, c48, c49, c50, c51, c52, c53, c54, c55, c56, c57, c58, c59, c60, c61, c62, c63, c64, c65, c66, c67, c68, c69, c70, c71, c72, c73, c74, c75, c76, .inr (7, [.int 0, .ref 78, .ref 79, .ref 80, .ref 81, .ref 82, .ref 83, .ref 84, .ref 85, .int 99, .ref 86, .ref 87, .ref 88, .ref 89, .ref 90, .ref 91, .ref 92, .ref 93, .ref 94, .int 0, .int 0, .int 0, .int 0, .int 0, .int 0, .int 0, .int 0, .ref 95, .ref 96, .ref 97, .ref 98, .null, .null, .null, .null, .int 0, .int 0, .int 0, .long 0, .int 0, .null, .null, .null, .null, .null, .null, .null, .null, .null, .null, .null, .null, .null, .null, .null, .null, .null, .null, .null, .null, .null, .null, .null, .int 0, .int 0, .null, .null, .null, .null]), (xI 8), (xI 192), (xI 192), (xI 192), (xJ 192), (xJ 192), (xI 192), (xJ 1536), (xI 192), (xI 192), (xZ 192), (xI 192), (xI 192), (xI 12288), (xJ 12288), (xI 12288), (xI 120), (xI 24), (xI 24), (xI 24), (xJ 24), (xJ 24)]) rfl ?_
  refine wPut 201 i143_198 p143_82 rfl (by decide) rfl rfl rfl ?_
  refine tHeap (h' := [c0, c1, c2, c3, c4, c5, c6, c7, c8, c9, c10, c11, c12, c13, c14, c15, c16, c17, c18, c19, c20, c21, c22, c23, c24, c25, c26, c27, c28, c29, c30, c31, c32, c33, c34, c35, c36, c37, c38, c39, c40, c41, c42, c43, c44, c45, c46, c47, c48, c49, c50, c51, c52, c53, c54, c55, c56, c57, c58, c59, c60, c61, c62, c63, c64, c65, c66, c67, c68, c69, c70, c71, c72, c73, c74, c75, c76, .inr (7, [.int 0, .ref 78, .ref 79, .ref 80, .ref 81, .ref 82, .ref 83, .ref 84, .ref 85, .int 99, .ref 86, .ref 87, .ref 88, .ref 89, .ref 90, .ref 91, .ref 92, .ref 93, .ref 94, .int 0, .int 0, .int 0, .int 0, .int 0, .int 0, .int 0, .int 0, .ref 95, .ref 96, .ref 97, .ref 98, .ref 99, .null, .null, .null, .int 0, .int 0, .int 0, .long 0, .int 0, .null, .null, .null, .null, .null, .null, .null, .null, .null, .null, .null, .null, .null, .null, .null, .null, .null, .null, .null, .null, .null, .null, .null, .int 0, .int 0, .null, .null, .null, .null]), (xI 8), (xI 192), (xI 192), (xI 192), (xJ 192), (xJ 192), (xI 192), (xJ 1536), (xI 192), (xI 192), (xZ 192), (xI 192), (xI 192), (xI 12288), (xJ 12288), (xI 12288), (xI 120), (xI 24), (xI 24), (xI 24), (xJ 24), (xJ 24)]) rfl ?_
  refine wLan 202 i143_201 rfl rfl ?_
  refine wKb 204 24 i143_202 (by decide) rfl ?_
  refine eNewA (n := 100) (N := 24) (c := (xI 24)) 30 82460 29 82436 i143_204 (by decide) (by decide) rfl rfl rfl rfl ?_
  refine tHeap (h' := [c0, c1, c2, c3, c4, c5, c6, c7, c8, c9, c10, c11, c12, c13, c14, c15, c16, c17, c18, c19, c20, c21, c22, c23, c24, c25, c26, c27, c28, c29, c30, c31, c32, c33, c34, c35, c36, c37, c38, c39, c40, c41, c42, c43, c44, c45, c46, c47, c48, c49, c50, c51, c52, c53, c54, c55, c56, c57, c58, c59, c60, c61, c62, c63, c64, c65, c66, c67, c68, c69, c70, c71, c72, c73, c74, c75, c76, .inr (7, [.int 0, .ref 78, .ref 79, .ref 80, .ref 81, .ref 82, .ref 83, .ref 84, .ref 85, .int 99, .ref 86, .ref 87, .ref 88, .ref 89, .ref 90, .ref 91, .ref 92, .ref 93, .ref 94, .int 0, .int 0, .int 0, .int 0, .int 0, .int 0, .int 0, .int 0, .ref 95, .ref 96, .ref 97, .ref 98, .ref 99, .null, .null, .null, .int 0, .int 0, .int 0, .long 0, .int 0, .null, .null, .null, .null, .null, .null, .null, .null, .null, .null, .null, .null, .null, .null, .null, .null, .null, .null, .null, .null, .null, .null, .null, .int 0, .int 0, .null, .null, .null, .null]), (xI 8), (xI 192), (xI 192), (xI 192), (xJ 192), (xJ 192), (xI 192), (xJ 1536), (xI 192), (xI 192), (xZ 192), (xI 192), (xI 192), (xI 12288), (xJ 12288), (xI 12288), (xI 120), (xI 24), (xI 24), (xI 24), (xJ 24), (xJ 24), (xI 24)]) rfl ?_
  refine wPut 209 i143_206 p143_85 rfl (by decide) rfl rfl rfl ?_
  refine tHeap (h' := [c0, c1, c2, c3, c4, c5, c6, c7, c8, c9, c10, c11, c12, c13, c14, c15, c16, c17, c18, c19, c20, c21, c22, c23, c24, c25, c26, c27, c28, c29, c30, c31, c32, c33, c34, c35, c36, c37, c38, c39, c40, c41, c42, c43, c44, c45, c46, c47, c48, c49, c50, c51, c52, c53, c54, c55, c56, c57, c58, c59, c60, c61, c62, c63, c64, c65, c66, c67, c68, c69, c70, c71, c72, c73, c74, c75, c76, .inr (7, [.int 0, .ref 78, .ref 79, .ref 80, .ref 81, .ref 82, .ref 83, .ref 84, .ref 85, .int 99, .ref 86, .ref 87, .ref 88, .ref 89, .ref 90, .ref 91, .ref 92, .ref 93, .ref 94, .int 0, .int 0, .int 0, .int 0, .int 0, .int 0, .int 0, .int 0, .ref 95, .ref 96, .ref 97, .ref 98, .ref 99, .ref 100, .null, .null, .int 0, .int 0, .int 0, .long 0, .int 0, .null, .null, .null, .null, .null, .null, .null, .null, .null, .null, .null, .null, .null, .null, .null, .null, .null, .null, .null, .null, .null, .null, .null, .int 0, .int 0, .null, .null, .null, .null]), (xI 8), (xI 192), (xI 192), (xI 192), (xJ 192), (xJ 192), (xI 192), (xJ 1536), (xI 192), (xI 192), (xZ 192), (xI 192), (xI 192), (xI 12288), (xJ 12288), (xI 12288), (xI 120), (xI 24), (xI 24), (xI 24), (xJ 24), (xJ 24), (xI 24)]) rfl ?_
  refine wLan 210 i143_209 rfl rfl ?_
  refine wKs 213 192 i143_210 (by decide) rfl ?_
  refine eNewA (n := 101) (N := 192) (c := (xJ 192)) 29 82436 28 82244 i143_213 (by decide) (by decide) rfl rfl rfl rfl ?_
  refine tHeap (h' := [c0, c1, c2, c3, c4, c5, c6, c7, c8, c9, c10, c11, c12, c13, c14, c15, c16, c17, c18, c19, c20, c21, c22, c23, c24, c25, c26, c27, c28, c29, c30, c31, c32, c33, c34, c35, c36, c37, c38, c39, c40, c41, c42, c43, c44, c45, c46, c47, c48, c49, c50, c51, c52, c53, c54, c55, c56, c57, c58, c59, c60, c61, c62, c63, c64, c65, c66, c67, c68, c69, c70, c71, c72, c73, c74, c75, c76, .inr (7, [.int 0, .ref 78, .ref 79, .ref 80, .ref 81, .ref 82, .ref 83, .ref 84, .ref 85, .int 99, .ref 86, .ref 87, .ref 88, .ref 89, .ref 90, .ref 91, .ref 92, .ref 93, .ref 94, .int 0, .int 0, .int 0, .int 0, .int 0, .int 0, .int 0, .int 0, .ref 95, .ref 96, .ref 97, .ref 98, .ref 99, .ref 100, .null, .null, .int 0, .int 0, .int 0, .long 0, .int 0, .null, .null, .null, .null, .null, .null, .null, .null, .null, .null, .null, .null, .null, .null, .null, .null, .null, .null, .null, .null, .null, .null, .null, .int 0, .int 0, .null, .null, .null, .null]), (xI 8), (xI 192), (xI 192), (xI 192), (xJ 192), (xJ 192), (xI 192), (xJ 1536), (xI 192), (xI 192), (xZ 192), (xI 192), (xI 192), (xI 12288), (xJ 12288), (xI 12288), (xI 120), (xI 24), (xI 24), (xI 24), (xJ 24), (xJ 24), (xI 24), (xJ 192)]) rfl ?_
  refine wPut 218 i143_215 p143_88 rfl (by decide) rfl rfl rfl ?_
  refine tHeap (h' := [c0, c1, c2, c3, c4, c5, c6, c7, c8, c9, c10, c11, c12, c13, c14, c15, c16, c17, c18, c19, c20, c21, c22, c23, c24, c25, c26, c27, c28, c29, c30, c31, c32, c33, c34, c35, c36, c37, c38, c39, c40, c41, c42, c43, c44, c45, c46, c47, c48, c49, c50, c51, c52, c53, c54, c55, c56, c57, c58, c59, c60, c61, c62, c63, c64, c65, c66, c67, c68, c69, c70, c71, c72, c73, c74, c75, c76, .inr (7, [.int 0, .ref 78, .ref 79, .ref 80, .ref 81, .ref 82, .ref 83, .ref 84, .ref 85, .int 99, .ref 86, .ref 87, .ref 88, .ref 89, .ref 90, .ref 91, .ref 92, .ref 93, .ref 94, .int 0, .int 0, .int 0, .int 0, .int 0, .int 0, .int 0, .int 0, .ref 95, .ref 96, .ref 97, .ref 98, .ref 99, .ref 100, .ref 101, .null, .int 0, .int 0, .int 0, .long 0, .int 0, .null, .null, .null, .null, .null, .null, .null, .null, .null, .null, .null, .null, .null, .null, .null, .null, .null, .null, .null, .null, .null, .null, .null, .int 0, .int 0, .null, .null, .null, .null]), (xI 8), (xI 192), (xI 192), (xI 192), (xJ 192), (xJ 192), (xI 192), (xJ 1536), (xI 192), (xI 192), (xZ 192), (xI 192), (xI 192), (xI 12288), (xJ 12288), (xI 12288), (xI 120), (xI 24), (xI 24), (xI 24), (xJ 24), (xJ 24), (xI 24), (xJ 192)]) rfl ?_
  refine wLan 219 i143_218 rfl rfl ?_
  refine wKs 222 4096 i143_219 (by decide) rfl ?_
  refine eNewA (n := 102) (N := 4096) (c := (xI 4096)) 28 82244 27 78148 i143_222 (by decide) (by decide) rfl rfl rfl rfl ?_
  refine tHeap (h' := [c0, c1, c2, c3, c4, c5, c6, c7, c8, c9, c10, c11, c12, c13, c14, c15, c16, c17, c18, c19, c20, c21, c22, c23, c24, c25, c26, c27, c28, c29, c30, c31, c32, c33, c34, c35, c36, c37, c38, c39, c40, c41, c42, c43, c44, c45, c46, c47, c48, c49, c50, c51, c52, c53, c54, c55, c56, c57, c58, c59, c60, c61, c62, c63, c64, c65, c66, c67, c68, c69, c70, c71, c72, c73, c74, c75, c76, .inr (7, [.int 0, .ref 78, .ref 79, .ref 80, .ref 81, .ref 82, .ref 83, .ref 84, .ref 85, .int 99, .ref 86, .ref 87, .ref 88, .ref 89, .ref 90, .ref 91, .ref 92, .ref 93, .ref 94, .int 0, .int 0, .int 0, .int 0, .int 0, .int 0, .int 0, .int 0, .ref 95, .ref 96, .ref 97, .ref 98, .ref 99, .ref 100, .ref 101, .null, .int 0, .int 0, .int 0, .long 0, .int 0, .null, .null, .null, .null, .null, .null, .null, .null, .null, .null, .null, .null, .null, .null, .null, .null, .null, .null, .null, .null, .null, .null, .null, .int 0, .int 0, .null, .null, .null, .null]), (xI 8), (xI 192), (xI 192), (xI 192), (xJ 192), (xJ 192), (xI 192), (xJ 1536), (xI 192), (xI 192), (xZ 192), (xI 192), (xI 192), (xI 12288), (xJ 12288), (xI 12288), (xI 120), (xI 24), (xI 24), (xI 24), (xJ 24), (xJ 24), (xI 24), (xJ 192), (xI 4096)]) rfl ?_
  refine wPut 227 i143_224 p143_91 rfl (by decide) rfl rfl rfl ?_
  refine tHeap (h' := [c0, c1, c2, c3, c4, c5, c6, c7, c8, c9, c10, c11, c12, c13, c14, c15, c16, c17, c18, c19, c20, c21, c22, c23, c24, c25, c26, c27, c28, c29, c30, c31, c32, c33, c34, c35, c36, c37, c38, c39, c40, c41, c42, c43, c44, c45, c46, c47, c48, c49, c50, c51, c52, c53, c54, c55, c56, c57, c58, c59, c60, c61, c62, c63, c64, c65, c66, c67, c68, c69, c70, c71, c72, c73, c74, c75, c76, .inr (7, [.int 0, .ref 78, .ref 79, .ref 80, .ref 81, .ref 82, .ref 83, .ref 84, .ref 85, .int 99, .ref 86, .ref 87, .ref 88, .ref 89, .ref 90, .ref 91, .ref 92, .ref 93, .ref 94, .int 0, .int 0, .int 0, .int 0, .int 0, .int 0, .int 0, .int 0, .ref 95, .ref 96, .ref 97, .ref 98, .ref 99, .ref 100, .ref 101, .ref 102, .int 0, .int 0, .int 0, .long 0, .int 0, .null, .null, .null, .null, .null, .null, .null, .null, .null, .null, .null, .null, .null, .null, .null, .null, .null, .null, .null, .null, .null, .null, .null, .int 0, .int 0, .null, .null, .null, .null]), (xI 8), (xI 192), (xI 192), (xI 192), (xJ 192), (xJ 192), (xI 192), (xJ 1536), (xI 192), (xI 192), (xZ 192), (xI 192), (xI 192), (xI 12288), (xJ 12288), (xI 12288), (xI 120), (xI 24), (xI 24), (xI 24), (xJ 24), (xJ 24), (xI 24), (xJ 192), (xI 4096)]) rfl ?_
  refine wLan 228 i143_227 rfl rfl ?_
  refine wKs 231 192 i143_228 (by decide) rfl ?_
  refine eNewA (n := 103) (N := 192) (c := (xI 192)) 27 78148 26 77956 i143_231 (by decide) (by decide) rfl rfl rfl rfl ?_
  refine tHeap (h' := [c0, c1, c2, c3, c4, c5, c6, c7, c8, c9, c10, c11, c12, c13, c14, c15, c16, c17, c18, c19, c20, c21, c22, c23, c24, c25, c26, c27, c28, c29, c30, c31, c32, c33, c34, c35, c36, c37, c38, c39, c40, c41, c42, c43, c44, c45, c46, c47, c48, c49, c50, c51, c52, c53, c54, c55, c56, c57, c58, c59, c60, c61, c62, c63, c64, c65, c66, c67, c68, c69, c70, c71, c72, c73, c74, c75, c76, .inr (7, [.int 0, .ref 78, .ref 79, .ref 80, .ref 81, .ref 82, .ref 83, .ref 84, .ref 85, .int 99, .ref 86, .ref 87, .ref 88, .ref 89, .ref 90, .ref 91, .ref 92, .ref 93, .ref 94, .int 0, .int 0, .int 0, .int 0, .int 0, .int 0, .int 0, .int 0, .ref 95, .ref 96, .ref 97, .ref 98, .ref 99, .ref 100, .ref 101, .ref 102, .int 0, .int 0, .int 0, .long 0, .int 0, .null, .null, .null, .null, .null, .null, .null, .null, .null, .null, .null, .null, .null, .null, .null, .null, .null, .null, .null, .null, .null, .null, .null, .int 0, .int 0, .null, .null, .null, .null]), (xI 8), (xI 192), (xI 192), (xI 192), (xJ 192), (xJ 192), (xI 192), (xJ 1536), (xI 192), (xI 192), (xZ 192), (xI 192), (xI 192), (xI 12288), (xJ 12288), (xI 12288), (xI 120), (xI 24), (xI 24), (xI 24), (xJ 24), (xJ 24), (xI 24), (xJ 192), (xI 4096), (xI 192)]) rfl ?_
  refine wPut 236 i143_233 p143_94 rfl (by decide) rfl rfl rfl ?_
  refine tHeap (h' := [c0, c1, c2, c3, c4, c5, c6, c7, c8, c9, c10, c11, c12, c13, c14, c15, c16, c17, c18, c19, c20, c21, c22, c23, c24, c25, c26, c27, c28, c29, c30, c31, c32, c33, c34, c35, c36, c37, c38, c39, c40, c41, c42, c43, c44, c45, c46, c47, c48, c49, c50, c51, c52, c53, c54, c55, c56, c57, c58, c59, c60, c61, c62, c63, c64, c65, c66, c67, c68, c69, c70, c71, c72, c73, c74, c75, c76, .inr (7, [.int 0, .ref 78, .ref 79, .ref 80, .ref 81, .ref 82, .ref 83, .ref 84, .ref 85, .int 99, .ref 86, .ref 87, .ref 88, .ref 89, .ref 90, .ref 91, .ref 92, .ref 93, .ref 94, .int 0, .int 0, .int 0, .int 0, .int 0, .int 0, .int 0, .int 0, .ref 95, .ref 96, .ref 97, .ref 98, .ref 99, .ref 100, .ref 101, .ref 102, .int 0, .int 0, .int 0, .long 0, .int 0, .ref 103, .null, .null, .null, .null, .null, .null, .null, .null, .null, .null, .null, .null, .null, .null, .null, .null, .null, .null, .null, .null, .null, .null, .int 0, .int 0, .null, .null, .null, .null]), (xI 8), (xI 192), (xI 192), (xI 192), (xJ 192), (xJ 192), (xI 192), (xJ 1536), (xI 192), (xI 192), (xZ 192), (xI 192), (xI 192), (xI 12288), (xJ 12288), (xI 12288), (xI 120), (xI 24), (xI 24), (xI 24), (xJ 24), (xJ 24), (xI 24), (xJ 192), (xI 4096), (xI 192)]) rfl ?_
  refine wLan 237 i143_236 rfl rfl ?_
  refine wKs 240 192 i143_237 (by decide) rfl ?_
  refine eNewA (n := 104) (N := 192) (c := (xI 192)) 26 77956 25 77764 i143_240 (by decide) (by decide) rfl rfl rfl rfl ?_
  refine tHeap (h' := [c0, c1, c2, c3, c4, c5, c6, c7, c8, c9, c10, c11, c12, c13, c14, c15, c16, c17, c18, c19, c20, c21, c22, c23, c24, c25, c26, c27, c28, c29, c30, c31, c32, c33, c34, c35, c36, c37, c38, c39, c40, c41, c42, c43, c44, c45, c46, c47, c48, c49, c50, c51, c52, c53, c54, c55, c56, c57, c58, c59, c60, c61, c62, c63, c64, c65, c66, c67, c68, c69, c70, c71, c72, c73, c74, c75, c76, .inr (7, [.int 0, .ref 78, .ref 79, .ref 80, .ref 81, .ref 82, .ref 83, .ref 84, .ref 85, .int 99, .ref 86, .ref 87, .ref 88, .ref 89, .ref 90, .ref 91, .ref 92, .ref 93, .ref 94, .int 0, .int 0, .int 0, .int 0, .int 0, .int 0, .int 0, .int 0, .ref 95, .ref 96, .ref 97, .ref 98, .ref 99, .ref 100, .ref 101, .ref 102, .int 0, .int 0, .int 0, .long 0, .int 0, .ref 103, .null, .null, .null, .null, .null, .null, .null, .null, .null, .null, .null, .null, .null, .null, .null, .null, .null, .null, .null, .null, .null, .null, .int 0, .int 0, .null, .null, .null, .null]), (xI 8), (xI 192), (xI 192), (xI 192), (xJ 192), (xJ 192), (xI 192), (xJ 1536), (xI 192), (xI 192), (xZ 192), (xI 192), (xI 192), (xI 12288), (xJ 12288), (xI 12288), (xI 120), (xI 24), (xI 24), (xI 24), (xJ 24), (xJ 24), (xI 24), (xJ 192), (xI 4096), (xI 192), (xI 192)]) rfl ?_
  refine wPut 245 i143_242 p143_97 rfl (by decide) rfl rfl rfl ?_
  refine tHeap (h' := [c0, c1, c2, c3, c4, c5, c6, c7, c8, c9, c10, c11, c12, c13, c14, c15, c16, c17, c18, c19, c20, c21, c22, c23, c24, c25, c26, c27, c28, c29, c30, c31, c32, c33, c34, c35, c36, c37, c38, c39, c40, c41, c42, c43, c44, c45, c46, c47, c48, c49, c50, c51, c52, c53, c54, c55, c56, c57, c58, c59, c60, c61, c62, c63, c64, c65, c66, c67, c68, c69, c70, c71, c72, c73, c74, c75, c76, .inr (7, [.int 0, .ref 78, .ref 79, .ref 80, .ref 81, .ref 82, .ref 83, .ref 84, .ref 85, .int 99, .ref 86, .ref 87, .ref 88, .ref 89, .ref 90, .ref 91, .ref 92, .ref 93, .ref 94, .int 0, .int 0, .int 0, .int 0, .int 0, .int 0, .int 0, .int 0, .ref 95, .ref 96, .ref 97, .ref 98, .ref 99, .ref 100, .ref 101, .ref 102, .int 0, .int 0, .int 0, .long 0, .int 0, .ref 103, .ref 104, .null, .null, .null, .null, .null, .null, .null, .null, .null, .null, .null, .null, .null, .null, .null, .null, .null, .null, .null, .null, .null, .int 0, .int 0, .null, .null, .null, .null]), (xI 8), (xI 192), (xI 192), (xI 192), (xJ 192), (xJ 192), (xI 192), (xJ 1536), (xI 192), (xI 192), (xZ 192), (xI 192), (xI 192), (xI 12288), (xJ 12288), (xI 12288), (xI 120), (xI 24), (xI 24), (xI 24), (xJ 24), (xJ 24), (xI 24), (xJ 192), (xI 4096), (xI 192), (xI 192)]) rfl ?_
  refine wLan 246 i143_245 rfl rfl ?_
  refine wKs 249 192 i143_246 (by decide) rfl ?_
  refine eNewA (n := 105) (N := 192) (c := (xI 192)) 25 77764 24 77572 i143_249 (by decide) (by decide) rfl rfl rfl rfl ?_
  refine tHeap (h' := [c0, c1, c2, c3, c4, c5, c6, c7, c8, c9, c10, c11, c12, c13, c14, c15, c16, c17, c18, c19, c20, c21, c22, c23, c24, c25, c26, c27, c28, c29, c30, c31, c32, c33, c34, c35, c36, c37, c38, c39, c40, c41, c42, c43, c44, c45, c46, c47, c48, c49, c50, c51, c52, c53, c54, c55, c56, c57, c58, c59, c60, c61, c62, c63, c64, c65, c66, c67, c68, c69, c70, c71, c72, c73, c74, c75, c76, .inr (7, [.int 0, .ref 78, .ref 79, .ref 80, .ref 81, .ref 82, .ref 83, .ref 84, .ref 85, .int 99, .ref 86, .ref 87, .ref 88, .ref 89, .ref 90, .ref 91, .ref 92, .ref 93, .ref 94, .int 0, .int 0, .int 0, .int 0, .int 0, .int 0, .int 0, .int 0, .ref 95, .ref 96, .ref 97, .ref 98, .ref 99, .ref 100, .ref 101, .ref 102, .int 0, .int 0, .int 0, .long 0, .int 0, .ref 103, .ref 104, .null, .null, .null, .null, .null, .null, .null, .null, .null, .null, .null, .null, .null, .null, .null, .null, .null, .null, .null, .null, .null, .int 0, .int 0, .null, .null, .null, .null]), (xI 8), (xI 192), (xI 192), (xI 192), (xJ 192), (xJ 192), (xI 192), (xJ 1536), (xI 192), (xI 192), (xZ 192), (xI 192), (xI 192), (xI 12288), (xJ 12288), (xI 12288), (xI 120), (xI 24), (xI 24), (xI 24), (xJ 24), (xJ 24), (xI 24), (xJ 192), (xI 4096), (xI 192), (xI 192), (xI 192)]) rfl ?_
  refine wPut 254 i143_251 p143_100 rfl (by decide) rfl rfl rfl ?_
  refine tHeap (h' := [c0, c1, c2, c3, c4, c5, c6, c7, c8, c9, c10, c11, c12, c13, c14, c15, c16, c17, c18, c19, c20, c21, c22, c23, c24, c25, c26, c27, c28, c29, c30, c31, c32, c33, c34, c35, c36, c37, c38, c39, c40, c41, c42, c43, c44, c45, c46, c47, c48, c49, c50, c51, c52, c53, c54, c55, c56, c57, c58, c59, c60, c61, c62, c63, c64, c65, c66, c67, c68, c69, c70, c71, c72, c73, c74, c75, c76, .inr (7, [.int 0, .ref 78, .ref 79, .ref 80, .ref 81, .ref 82, .ref 83, .ref 84, .ref 85, .int 99, .ref 86, .ref 87, .ref 88, .ref 89, .ref 90, .ref 91, .ref 92, .ref 93, .ref 94, .int 0, .int 0, .int 0, .int 0, .int 0, .int 0, .int 0, .int 0, .ref 95, .ref 96, .ref 97, .ref 98, .ref 99, .ref 100, .ref 101, .ref 102, .int 0, .int 0, .int 0, .long 0, .int 0, .ref 103, .ref 104, .ref 105, .null, .null, .null, .null, .null, .null, .null, .null, .null, .null, .null, .null, .null, .null, .null, .null, .null, .null, .null, .null, .int 0, .int 0, .null, .null, .null, .null]), (xI 8), (xI 192), (xI 192), (xI 192), (xJ 192), (xJ 192), (xI 192), (xJ 1536), (xI 192), (xI 192), (xZ 192), (xI 192), (xI 192), (xI 12288), (xJ 12288), (xI 12288), (xI 120), (xI 24), (xI 24), (xI 24), (xJ 24), (xJ 24), (xI 24), (xJ 192), (xI 4096), (xI 192), (xI 192), (xI 192)]) rfl ?_
  refine wLan 255 i143_254 rfl rfl ?_
  refine wKs 258 192 i143_255 (by decide) rfl ?_
  refine eNewA (n := 106) (N := 192) (c := (xI 192)) 24 77572 23 77380 i143_258 (by decide) (by decide) rfl rfl rfl rfl ?_
  refine tHeap (h' := [c0, c1, c2, c3, c4, c5, c6, c7, c8, c9, c10, c11, c12, c13, c14, c15, c16, c17, c18, c19, c20, c21, c22, c23, c24, c25, c26, c27, c28, c29, c30, c31, c32, c33, c34, c35, c36, c37, c38, c39, c40, c41, c42, c43, c44, c45, c46, c47, c48, c49, c50, c51, c52, c53, c54, c55, c56, c57, c58, c59, c60, c61, c62, c63, c64, c65, c66, c67, c68, c69, c70, c71, c72, c73, c74, c75, c76, .inr (7, [.int 0, .ref 78, .ref 79, .ref 80, .ref 81, .ref 82, .ref 83, .ref 84, .ref 85, .int 99, .ref 86, .ref 87, .ref 88, .ref 89, .ref 90, .ref 91, .ref 92, .ref 93, .ref 94, .int 0, .int 0, .int 0, .int 0, .int 0, .int 0, .int 0, .int 0, .ref 95, .ref 96, .ref 97, .ref 98, .ref 99, .ref 100, .ref 101, .ref 102, .int 0, .int 0, .int 0, .long 0, .int 0, .ref 103, .ref 104, .ref 105, .null, .null, .null, .null, .null, .null, .null, .null, .null, .null, .null, .null, .null, .null, .null, .null, .null, .null, .null, .null, .int 0, .int 0, .null, .null, .null, .null]), (xI 8), (xI 192), (xI 192), (xI 192), (xJ 192), (xJ 192), (xI 192), (xJ 1536), (xI 192), (xI 192), (xZ 192), (xI 192), (xI 192), (xI 12288), (xJ 12288), (xI 12288), (xI 120), (xI 24), (xI 24), (xI 24), (xJ 24), (xJ 24), (xI 24), (xJ 192), (xI 4096), (xI 192), (xI 192), (xI 192), (xI 192)]) rfl ?_
  refine wPut 263 i143_260 p143_103 rfl (by decide) rfl rfl rfl ?_
  refine tHeap (h' := [c0, c1, c2, c3, c4, c5, c6, c7, c8, c9, c10, c11, c12, c13, c14, c15, c16, c17, c18, c19, c20, c21, c22, c23, c24, c25, c26, c27, c28, c29, c30, c31, c32, c33, c34, c35, c36, c37, c38, c39, c40, c41, c42, c43, c44, c45, c46, c47, c48, c49, c50, c51, c52, c53, c54, c55, c56, c57, c58, c59, c60, c61, c62, c63, c64, c65, c66, c67, c68, c69, c70, c71, c72, c73, c74, c75, c76, .inr (7, [.int 0, .ref 78, .ref 79, .ref 80, .ref 81, .ref 82, .ref 83, .ref 84, .ref 85, .int 99, .ref 86, .ref 87, .ref 88, .ref 89, .ref 90, .ref 91, .ref 92, .ref 93, .ref 94, .int 0, .int 0, .int 0, .int 0, .int 0, .int 0, .int 0, .int 0, .ref 95, .ref 96, .ref 97, .ref 98, .ref 99, .ref 100, .ref 101, .ref 102, .int 0, .int 0, .int 0, .long 0, .int 0, .ref 103, .ref 104, .ref 105, .ref 106, .null, .null, .null, .null, .null, .null, .null, .null, .null, .null, .null, .null, .null, .null, .null, .null, .null, .null, .null, .int 0, .int 0, .null, .null, .null, .null]), (xI 8), (xI 192), (xI 192), (xI 192), (xJ 192), (xJ 192), (xI 192), (xJ 1536), (xI 192), (xI 192), (xZ 192), (xI 192), (xI 192), (xI 12288), (xJ 12288), (xI 12288), (xI 120), (xI 24), (xI 24), (xI 24), (xJ 24), (xJ 24), (xI 24), (xJ 192), (xI 4096), (xI 192), (xI 192), (xI 192), (xI 192)]) rfl ?_
  refine wLan 264 i143_263 rfl rfl ?_
  refine wKs 267 12288 i143_264 (by decide) rfl ?_
  refine eNewA (n := 107) (N := 12288) (c := (xI 12288)) 23 77380 22 65092 i143_267 (by decide) (by decide) rfl rfl rfl rfl ?_
  refine tHeap (h' := [c0, c1, c2, c3, c4, c5, c6, c7, c8, c9, c10, c11, c12, c13, c14, c15, c16, c17, c18, c19, c20, c21, c22, c23, c24, c25, c26, c27, c28, c29, c30, c31, c32, c33, c34, c35, c36, c37, c38, c39, c40, c41, c42, c43, c44, c45, c46, c47, c48, c49, c50, c51, c52, c53, c54, c55, c56, c57, c58, c59, c60, c61, c62, c63, c64, c65, c66, c67, c68, c69, c70, c71, c72, c73, c74, c75, c76, .inr (7, [.int 0, .ref 78, .ref 79, .ref 80, .ref 81, .ref 82, .ref 83, .ref 84, .ref 85, .int 99, .ref 86, .ref 87, .ref 88, .ref 89, .ref 90, .ref 91, .ref 92, .ref 93, .ref 94, .int 0, .int 0, .int 0, .int 0, .int 0, .int 0, .int 0, .int 0, .ref 95, .ref 96, .ref 97, .ref 98, .ref 99, .ref 100, .ref 101, .ref 102, .int 0, .int 0, .int 0, .long 0, .int 0, .ref 103, .ref 104, .ref 105, .ref 106, .null, .null, .null, .null, .null, .null, .null, .null, .null, .null, .null, .null, .null, .null, .null, .null, .null, .null, .null, .int 0, .int 0, .null, .null, .null, .null]), (xI 8), (xI 192), (xI 192), (xI 192), (xJ 192), (xJ 192), (xI 192), (xJ 1536), (xI 192), (xI 192), (xZ 192), (xI 192), (xI 192), (xI 12288), (xJ 12288), (xI 12288), (xI 120), (xI 24), (xI 24), (xI 24), (xJ 24), (xJ 24), (xI 24), (xJ 192), (xI 4096), (xI 192), (xI 192), (xI 192), (xI 192), (xI 12288)]) rfl ?_
  refine wPut 272 i143_269 p143_106 rfl (by decide) rfl rfl rfl ?_
  refine tHeap (h' := [c0, c1, c2, c3, c4, c5, c6, c7, c8, c9, c10, c11, c12, c13, c14, c15, c16, c17, c18, c19, c20, c21, c22, c23, c24, c25, c26, c27, c28, c29, c30, c31, c32, c33, c34, c35, c36, c37, c38, c39, c40, c41, c42, c43, c44, c45, c46, c47, c48, c49, c50, c51, c52, c53, c54, c55, c56, c57, c58, c59, c60, c61, c62, c63, c64, c65, c66, c67, c68, c69, c70, c71, c72, c73, c74, c75, c76, .inr (7, [.int 0, .ref 78, .ref 79, .ref 80, .ref 81, .ref 82, .ref 83, .ref 84, .ref 85, .int 99, .ref 86, .ref 87, .ref 88, .ref 89, .ref 90, .ref 91, .ref 92, .ref 93, .ref 94, .int 0, .int 0, .int 0, .int 0, .int 0, .int 0, .int 0, .int 0, .ref 95, .ref 96, .ref 97, .ref 98, .ref 99, .ref 100, .ref 101, .ref 102, .int 0, .int 0, .int 0, .long 0, .int 0, .ref 103, .ref 104, .ref 105, .ref 106, .ref 107, .null, .null, .null, .null, .null, .null, .null, .null, .null, .null, .null, .null, .null, .null, .null, .null, .null, .null, .int 0, .int 0, .null, .null, .null, .null]), (xI 8), (xI 192), (xI 192), (xI 192), (xJ 192), (xJ 192), (xI 192), (xJ 1536), (xI 192), (xI 192), (xZ 192), (xI 192), (xI 192), (xI 12288), (xJ 12288), (xI 12288), (xI 120), (xI 24), (xI 24), (xI 24), (xJ 24), (xJ 24), (xI 24), (xJ 192), (xI 4096), (xI 192), (xI 192), (xI 192), (xI 192), (xI 12288)]) rfl ?_
  refine wLan 273 i143_272 rfl rfl ?_
  refine wKs 276 12288 i143_273 (by decide) rfl ?_
  refine eNewA (n := 108) (N := 12288) (c := (xJ 12288)) 22 65092 21 52804 i143_276 (by decide) (by decide) rfl rfl rfl rfl ?_
  refine tHeap (h' := [c0, c1, c2, c3, c4, c5, c6, c7, c8, c9, c10, c11, c12, c13, c14, c15, c16, c17, c18, c19, c20, c21, c22, c23, c24, c25, c26, c27, c28, c29, c30, c31, c32, c33, c34, c35, c36, c37, c38, c39, c40, c41, c42, c43, c44, c45, c46, c47, c48, c49, c50, c51, c52, c53, c54, c55, c56, c57, c58, c59, c60, c61, c62, c63, c64, c65, c66, c67, c68, c69, c70, c71, c72, c73, c74, c75, c76, .inr (7, [.int 0, .ref 78, .ref 79, .ref 80, .ref 81, .ref 82, .ref 83, .ref 84, .ref 85, .int 99, .ref 86, .ref 87, .ref 88, .ref 89, .ref 90, .ref 91, .ref 92, .ref 93, .ref 94, .int 0, .int 0, .int 0, .int 0, .int 0, .int 0, .int 0, .int 0, .ref 95, .ref 96, .ref 97, .ref 98, .ref 99, .ref 100, .ref 101, .ref 102, .int 0, .int 0, .int 0, .long 0, .int 0, .ref 103, .ref 104, .ref 105, .ref 106, .ref 107, .null, .null, .null, .null, .null, .null, .null, .null, .null, .null, .null, .null, .null, .null, .null, .null, .null, .null, .int 0, .int 0, .null, .null, .null, .null]), (xI 8), (xI 192), (xI 192), (xI 192), (xJ 192), (xJ 192), (xI 192), (xJ 1536), (xI 192), (xI 192), (xZ 192), (xI 192), (xI 192), (xI 12288), (xJ 12288), (xI 12288), (xI 120), (xI 24), (xI 24), (xI 24), (xJ 24), (xJ 24), (xI 24), (xJ 192), (xI 4096), (xI 192), (xI 192), (xI 192), (xI 192), (xI 12288), (xJ 12288)]) rfl ?_
  refine wPut 281 i143_278 p143_109 rfl (by decide) rfl rfl rfl ?_
  refine tHeap (h' := [c0, c1, c2, c3, c4, c5, c6, c7, c8, c9, c10, c11, c12, c13, c14, c15, c16, c17, c18, c19, c20, c21, c22, c23, c24, c25, c26, c27, c28, c29, c30, c31, c32, c33, c34, c35, c36, c37, c38, c39, c40, c41, c42, c43, c44, c45, c46, c47, c48, c49, c50, c51, c52, c53, c54, c55, c56, c57, c58, c59, c60, c61, c62, c63, c64, c65, c66, c67, c68, c69, c70, c71, c72, c73, c74, c75, c76, .inr (7, [.int 0, .ref 78, .ref 79, .ref 80, .ref 81, .ref 82, .ref 83, .ref 84, .ref 85, .int 99, .ref 86, .ref 87, .ref 88, .ref 89, .ref 90, .ref 91, .ref 92, .ref 93, .ref 94, .int 0, .int 0, .int 0, .int 0, .int 0, .int 0, .int 0, .int 0, .ref 95, .ref 96, .ref 97, .ref 98, .ref 99, .ref 100, .ref 101, .ref 102, .int 0, .int 0, .int 0, .long 0, .int 0, .ref 103, .ref 104, .ref 105, .ref 106, .ref 107, .ref 108, .null, .null, .null, .null, .null, .null, .null, .null, .null, .null, .null, .null, .null, .null, .null, .null, .null, .int 0, .int 0, .null, .null, .null, .null]), (xI 8), (xI 192), (xI 192), (xI 192), (xJ 192), (xJ 192), (xI 192), (xJ 1536), (xI 192), (xI 192), (xZ 192), (xI 192), (xI 192), (xI 12288), (xJ 12288), (xI 12288), (xI 120), (xI 24), (xI 24), (xI 24), (xJ 24), (xJ 24), (xI 24), (xJ 192), (xI 4096), (xI 192), (xI 192), (xI 192), (xI 192), (xI 12288), (xJ 12288)]) rfl ?_
  refine wLan 282 i143_281 rfl rfl ?_
  refine wKs 285 12288 i143_282 (by decide) rfl ?_
  refine eNewA (n := 109) (N := 12288) (c := (xI 12288)) 21 52804 20 40516 i143_285 (by decide) (by decide) rfl rfl rfl rfl ?_
  refine tHeap (h' := [c0, c1, c2, c3, c4, c5, c6, c7, c8, c9, c10, c11, c12, c13, c14, c15, c16, c17, c18, c19, c20, c21, c22, c23, c24, c25, c26, c27, c28, c29, c30, c31, c32, c33, c34, c35, c36, c37, c38, c39, c40, c41, c42, c43, c44, c45, c46, c47, c48, c49, c50, c51, c52, c53, c54, c55, c56, c57, c58, c59, c60, c61, c62, c63, c64, c65, c66, c67, c68, c69, c70, c71, c72, c73, c74, c75, c76, .inr (7, [.int 0, .ref 78, .ref 79, .ref 80, .ref 81, .ref 82, .ref 83, .ref 84, .ref 85, .int 99, .ref 86, .ref 87, .ref 88, .ref 89, .ref 90, .ref 91, .ref 92, .ref 93, .ref 94, .int 0, .int 0, .int 0, .int 0, .int 0, .int 0, .int 0, .int 0, .ref 95, .ref 96, .ref 97, .ref 98, .ref 99, .ref 100, .ref 101, .ref 102, .int 0, .int 0, .int 0, .long 0, .int 0, .ref 103, .ref 104, .ref 105, .ref 106, .ref 107, .ref 108, .null, .null, .null, .null, .null, .null, .null, .null, .null, .null, .null, .null, .null, .null, .null, .null, .null, .int 0, .int 0, .null, .null, .null, .null]), (xI 8), (xI 192), (xI 192), (xI 192), (xJ 192), (xJ 192), (xI 192), (xJ 1536), (xI 192), (xI 192), (xZ 192), (xI 192), (xI 192), (xI 12288), (xJ 12288), (xI 12288), (xI 120), (xI 24), (xI 24), (xI 24), (xJ 24), (xJ 24), (xI 24), (xJ 192), (xI 4096), (xI 192), (xI 192), (xI 192), (xI 192), (xI 12288), (xJ 12288), (xI 12288)]) rfl ?_
  refine wPut 290 i143_287 p143_112 rfl (by decide) rfl rfl rfl ?_
  refine tHeap (h' := [c0, c1, c2, c3, c4, c5, c6, c7, c8, c9, c10, c11, c12, c13, c14, c15, c16, c17, c18, c19, c20, c21, c22, c23, c24, c25, c26, c27, c28, c29, c30, c31, c32, c33, c34, c35, c36, c37, c38, c39, c40, c41, c42, c43, c44, c45, c46, c47, c48, c49, c50, c51, c52, c53, c54, c55, c56, c57, c58, c59, c60, c61, c62, c63, c64, c65, c66, c67, c68, c69, c70, c71, c72, c73, c74, c75, c76, .inr (7, [.int 0, .ref 78, .ref 79, .ref 80, .ref 81, .ref 82, .ref 83, .ref 84, .ref 85, .int 99, .ref 86, .ref 87, .ref 88, .ref 89, .ref 90, .ref 91, .ref 92, .ref 93, .ref 94, .int 0, .int 0, .int 0, .int 0, .int 0, .int 0, .int 0, .int 0, .ref 95, .ref 96, .ref 97, .ref 98, .ref 99, .ref 100, .ref 101, .ref 102, .int 0, .int 0, .int 0, .long 0, .int 0, .ref 103, .ref 104, .ref 105, .ref 106, .ref 107, .ref 108, .ref 109, .null, .null, .null, .null, .null, .null, .null, .null, .null, .null, .null, .null, .null, .null, .null, .null, .int 0, .int 0, .null, .null, .null, .null]), (xI 8), (xI 192), (xI 192), (xI 192), (xJ 192), (xJ 192), (xI 192), (xJ 1536), (xI 192), (xI 192), (xZ 192), (xI 192), (xI 192), (xI 12288), (xJ 12288), (xI 12288), (xI 120), (xI 24), (xI 24), (xI 24), (xJ 24), (xJ 24), (xI 24), (xJ 192), (xI 4096), (xI 192), (xI 192), (xI 192), (xI 192), (xI 12288), (xJ 12288), (xI 12288)]) rfl ?_
  refine wLan 291 i143_290 rfl rfl ?_
  refine wKb 293 16 i143_291 (by decide) rfl ?_
  refine eNewA (n := 110) (N := 16) (c := (xJ 16)) 20 40516 19 40500 i143_293 (by decide) (by decide) rfl rfl rfl rfl ?_
  refine tHeap (h' := [c0, c1, c2, c3, c4, c5, c6, c7, c8, c9, c10, c11, c12, c13, c14, c15, c16, c17, c18, c19, c20, c21, c22, c23, c24, c25, c26, c27, c28, c29, c30, c31, c32, c33, c34, c35, c36, c37, c38, c39, c40, c41, c42, c43, c44, c45, c46, c47, c48, c49, c50, c51, c52, c53, c54, c55, c56, c57, c58, c59, c60, c61, c62, c63, c64, c65, c66, c67, c68, c69, c70, c71, c72, c73, c74, c75, c76, .inr (7, [.int 0, .ref 78, .ref 79, .ref 80, .ref 81, .ref 82, .ref 83, .ref 84, .ref 85, .int 99, .ref 86, .ref 87, .ref 88, .ref 89, .ref 90, .ref 91, .ref 92, .ref 93, .ref 94, .int 0, .int 0, .int 0, .int 0, .int 0, .int 0, .int 0, .int 0, .ref 95, .ref 96, .ref 97, .ref 98, .ref 99, .ref 100, .ref 101, .ref 102, .int 0, .int 0, .int 0, .long 0, .int 0, .ref 103, .ref 104, .ref 105, .ref 106, .ref 107, .ref 108, .ref 109, .null, .null, .null, .null, .null, .null, .null, .null, .null, .null, .null, .null, .null, .null, .null, .null, .int 0, .int 0, .null, .null, .null, .null]), (xI 8), (xI 192), (xI 192), (xI 192), (xJ 192), (xJ 192), (xI 192), (xJ 1536), (xI 192), (xI 192), (xZ 192), (xI 192), (xI 192), (xI 12288), (xJ 12288), (xI 12288), (xI 120), (xI 24), (xI 24), (xI 24), (xJ 24), (xJ 24), (xI 24), (xJ 192), (xI 4096), (xI 192), (xI 192), (xI 192), (xI 192), (xI 12288), (xJ 12288), (xI 12288), (xJ 16)]) rfl ?_
  refine wPut 298 i143_295 p143_115 rfl (by decide) rfl rfl rfl ?_
  refine tHeap (h' := [c0, c1, c2, c3, c4, c5, c6, c7, c8, c9, c10, c11, c12, c13, c14, c15, c16, c17, c18, c19, c20, c21, c22, c23, c24, c25, c26, c27, c28, c29, c30, c31, c32, c33, c34, c35, c36, c37, c38, c39, c40, c41, c42, c43, c44, c45, c46, c47, c48, c49, c50, c51, c52, c53, c54, c55, c56, c57, c58, c59, c60, c61, c62, c63, c64, c65, c66, c67, c68, c69, c70, c71, c72, c73, c74, c75, c76, .inr (7, [.int 0, .ref 78, .ref 79, .ref 80, .ref 81, .ref 82, .ref 83, .ref 84, .ref 85, .int 99, .ref 86, .ref 87, .ref 88, .ref 89, .ref 90, .ref 91, .ref 92, .ref 93, .ref 94, .int 0, .int 0, .int 0, .int 0, .int 0, .int 0, .int 0, .int 0, .ref 95, .ref 96, .ref 97, .ref 98, .ref 99, .ref 100, .ref 101, .ref 102, .int 0, .int 0, .int 0, .long 0, .int 0, .ref 103, .ref 104, .ref 105, .ref 106, .ref 107, .ref 108, .ref 109, .ref 110, .null, .null, .null, .null, .null, .null, .null, .null, .null, .null, .null, .null, .null, .null, .null, .int 0, .int 0, .null, .null, .null, .null]), (xI 8), (xI 192), (xI 192), (xI 192), (xJ 192), (xJ 192), (xI 192), (xJ 1536), (xI 192), (xI 192), (xZ 192), (xI 192), (xI 192), (xI 12288), (xJ 12288), (xI 12288), (xI 120), (xI 24), (xI 24), (xI 24), (xJ 24), (xJ 24), (xI 24), (xJ 192), (xI 4096), (xI 192), (xI 192), (xI 192), (xI 192), (xI 12288), (xJ 12288), (xI 12288), (xJ 16)]) rfl ?_
  refine wLan 299 i143_298 rfl rfl ?_
  refine wKb 301 8 i143_299 (by decide) rfl ?_
  refine eNewA (n := 111) (N := 8) (c := (xI 8)) 19 40500 18 40492 i143_301 (by decide) (by decide) rfl rfl rfl rfl ?_
  refine tHeap (h' := [c0, c1, c2, c3, c4, c5, c6, c7, c8, c9, c10, c11, c12, c13, c14, c15, c16, c17, c18, c19, c20, c21, c22, c23, c24, c25, c26, c27, c28, c29, c30, c31, c32, c33, c34, c35, c36, c37, c38, c39, c40, c41, c42, c43, c44, c45, c46, c47, c48, c49, c50, c51, c52, c53, c54, c55, c56, c57, c58, c59, c60, c61, c62, c63, c64, c65, c66, c67, c68, c69, c70, c71, c72, c73, c74, c75, c76, .inr (7, [.int 0, .ref 78, .ref 79, .ref 80, .ref 81, .ref 82, .ref 83, .ref 84, .ref 85, .int 99, .ref 86, .ref 87, .ref 88, .ref 89, .ref 90, .ref 91, .ref 92, .ref 93, .ref 94, .int 0, .int 0, .int 0, .int 0, .int 0, .int 0, .int 0, .int 0, .ref 95, .ref 96, .ref 97, .ref 98, .ref 99, .ref 100, .ref 101, .ref 102, .int 0, .int 0, .int 0, .long 0, .int 0, .ref 103, .ref 104, .ref 105, .ref 106, .ref 107, .ref 108, .ref 109, .ref 110, .null, .null, .null, .null, .null, .null, .null, .null, .null, .null, .null, .null, .null, .null, .null, .int 0, .int 0, .null, .null, .null, .null]), (xI 8), (xI 192), (xI 192), (xI 192), (xJ 192), (xJ 192), (xI 192), (xJ 1536), (xI 192), (xI 192), (xZ 192), (xI 192), (xI 192), (xI 12288), (xJ 12288), (xI 12288), (xI 120), (xI 24), (xI 24), (xI 24), (xJ 24), (xJ 24), (xI 24), (xJ 192), (xI 4096), (xI 192), (xI 192), (xI 192), (xI 192), (xI 12288), (xJ 12288), (xI 12288), (xJ 16), (xI 8)]) rfl ?_
  refine wPut 306 i143_303 p143_118 rfl (by decide) rfl rfl rfl ?_
  refine tHeap (h' := [c0, c1, c2, c3, c4, c5, c6, c7, c8, c9, c10, c11, c12, c13, c14, c15, c16, c17, c18, c19, c20, c21, c22, c23, c24, c25, c26, c27, c28, c29, c30, c31, c32, c33, c34, c35, c36, c37, c38, c39, c40, c41, c42, c43, c44, c45, c46, c47, c48, c49, c50, c51, c52, c53, c54, c55, c56, c57, c58, c59, c60, c61, c62, c63, c64, c65, c66, c67, c68, c69, c70, c71, c72, c73, c74, c75, c76, .inr (7, [.int 0, .ref 78, .ref 79, .ref 80, .ref 81, .ref 82, .ref 83, .ref 84, .ref 85, .int 99, .ref 86, .ref 87, .ref 88, .ref 89, .ref 90, .ref 91, .ref 92, .ref 93, .ref 94, .int 0, .int 0, .int 0, .int 0, .int 0, .int 0, .int 0, .int 0, .ref 95, .ref 96, .ref 97, .ref 98, .ref 99, .ref 100, .ref 101, .ref 102, .int 0, .int 0, .int 0, .long 0, .int 0, .ref 103, .ref 104, .ref 105, .ref 106, .ref 107, .ref 108, .ref 109, .ref 110, .ref 111, .null, .null, .null, .null, .null, .null, .null, .null, .null, .null, .null, .null, .null, .null, .int 0, .int 0, .null, .null, .null, .null]), (xI 8), (xI 192), (xI 192), (xI 192), (xJ 192), (xJ 192), (xI 192), (xJ 1536), (xI 192), (xI 192), (xZ 192), (xI 192), (xI 192), (xI 12288), (xJ 12288), (xI 12288), (xI 120), (xI 24), (xI 24), (xI 24), (xJ 24), (xJ 24), (xI 24), (xJ 192), (xI 4096), (xI 192), (xI 192), (xI 192), (xI 192), (xI 12288), (xJ 12288), (xI 12288), (xJ 16), (xI 8)]) rfl ?_
  refine wLan 307 i143_306 rfl rfl ?_
  refine wKs 310 192 i143_307 (by decide) rfl ?_
  refine eNewA (n := 112) (N := 192) (c := (xI 192)) 18 40492 17 40300 i143_310 (by decide) (by decide) rfl rfl rfl rfl ?_
  refine tHeap (h' := [c0, c1, c2, c3, c4, c5, c6, c7, c8, c9, c10, c11, c12, c13, c14, c15, c16, c17, c18, c19, c20, c21, c22, c23, c24, c25, c26, c27, c28, c29, c30, c31, c32, c33, c34, c35, c36, c37, c38, c39, c40, c41, c42, c43, c44, c45, c46, c47, c48, c49, c50, c51, c52, c53, c54, c55, c56, c57, c58, c59, c60, c61, c62, c63, c64, c65, c66, c67, c68, c69, c70, c71, c72, c73, c74, c75, c76, .inr (7, [.int 0, .ref 78, .ref 79, .ref 80, .ref 81, .ref 82, .ref 83, .ref 84, .ref 85, .int 99, .ref 86, .ref 87, .ref 88, .ref 89, .ref 90, .ref 91, .ref 92, .ref 93, .ref 94, .int 0, .int 0, .int 0, .int 0, .int 0, .int 0, .int 0, .int 0, .ref 95, .ref 96, .ref 97, .ref 98, .ref 99, .ref 100, .ref 101, .ref 102, .int 0, .int 0, .int 0, .long 0, .int 0, .ref 103, .ref 104, .ref 105, .ref 106, .ref 107, .ref 108, .ref 109, .ref 110, .ref 111, .null, .null, .null, .null, .null, .null, .null, .null, .null, .null, .null, .null, .null, .null, .int 0, .int 0, .null, .null, .null, .null]), (xI 8), (xI 192), (xI 192), (xI 192), (xJ 192), (xJ 192), (xI 192), (xJ 1536), (xI 192), (xI 192), (xZ 192), (xI 192), (xI 192), (xI 12288), (xJ 12288), (xI 12288), (xI 120), (xI 24), (xI 24), (xI 24), (xJ 24), (xJ 24), (xI 24), (xJ 192), (xI 4096), (xI 192), (xI 192), (xI 192), (xI 192), (xI 12288), (xJ 12288), (xI 12288), (xJ 16), (xI 8), (xI 192)]) rfl ?_
  refine wPut 315 i143_312 p143_121 rfl (by decide) rfl rfl rfl ?_
  refine tHeap (h' := [c0, c1, c2, c3, c4, c5, c6, c7, c8, c9, c10, c11, c12, c13, c14, c15, c16, c17, c18, c19, c20, c21, c22, c23, c24, c25, c26, c27, c28, c29, c30, c31, c32, c33, c34, c35, c36, c37, c38, c39, c40, c41, c42, c43, c44, c45, c46, c47, c48, c49, c50, c51, c52, c53, c54, c55, c56, c57, c58, c59, c60, c61, c62, c63, c64, c65, c66, c67, c68, c69, c70, c71, c72, c73, c74, c75, c76, .inr (7, [.int 0, .ref 78, .ref 79, .ref 80, .ref 81, .ref 82, .ref 83, .ref 84, .ref 85, .int 99, .ref 86, .ref 87, .ref 88, .ref 89, .ref 90, .ref 91, .ref 92, .ref 93, .ref 94, .int 0, .int 0, .int 0, .int 0, .int 0, .int 0, .int 0, .int 0, .ref 95, .ref 96, .ref 97, .ref 98, .ref 99, .ref 100, .ref 101, .ref 102, .int 0, .int 0, .int 0, .long 0, .int 0, .ref 103, .ref 104, .ref 105, .ref 106, .ref 107, .ref 108, .ref 109, .ref 110, .ref 111, .ref 112, .null, .null, .null, .null, .null, .null, .null, .null, .null, .null, .null, .null, .null, .int 0, .int 0, .null, .null, .null, .null]), (xI 8), (xI 192), (xI 192), (xI 192), (xJ 192), (xJ 192), (xI 192), (xJ 1536), (xI 192), (xI 192), (xZ 192), (xI 192), (xI 192), (xI 12288), (xJ 12288), (xI 12288), (xI 120), (xI 24), (xI 24), (xI 24), (xJ 24), (xJ 24), (xI 24), (xJ 192), (xI 4096), (xI 192), (xI 192), (xI 192), (xI 192), (xI 12288), (xJ 12288), (xI 12288), (xJ 16), (xI 8), (xI 192)]) rfl ?_
  refine wLan 316 i143_315 rfl rfl ?_
  refine wKs 319 192 i143_316 (by decide) rfl ?_
  refine eNewA (n := 113) (N := 192) (c := (xI 192)) 17 40300 16 40108 i143_319 (by decide) (by decide) rfl rfl rfl rfl ?_
  refine tHeap (h' := [c0, c1, c2, c3, c4, c5, c6, c7, c8, c9, c10, c11, c12, c13, c14, c15, c16, c17, c18, c19, c20, c21, c22, c23, c24, c25, c26, c27, c28, c29, c30, c31, c32, c33, c34, c35, c36, c37, c38, c39, c40, c41, c42, c43, c44, c45, c46, c47, c48, c49, c50, c51, c52, c53, c54, c55, c56, c57, c58, c59, c60, c61, c62, c63, c64, c65, c66, c67, c68, c69, c70, c71, c72, c73, c74, c75, c76, .inr (7, [.int 0, .ref 78, .ref 79, .ref 80, .ref 81, .ref 82, .ref 83, .ref 84, .ref 85, .int 99, .ref 86, .ref 87, .ref 88, .ref 89, .ref 90, .ref 91, .ref 92, .ref 93, .ref 94, .int 0, .int 0, .int 0, .int 0, .int 0, .int 0, .int 0, .int 0, .ref 95, .ref 96, .ref 97, .ref 98, .ref 99, .ref 100, .ref 101, .ref 102, .int 0, .int 0, .int 0, .long 0, .int 0, .ref 103, .ref 104, .ref 105, .ref 106, .ref 107, .ref 108, .ref 109, .ref 110, .ref 111, .ref 112, .null, .null, .null, .null, .null, .null, .null, .null, .null, .null, .null, .null, .null, .int 0, .int 0, .null, .null, .null, .null]), (xI 8), (xI 192), (xI 192), (xI 192), (xJ 192), (xJ 192), (xI 192), (xJ 1536), (xI 192), (xI 192), (xZ 192), (xI 192), (xI 192), (xI 12288), (xJ 12288), (xI 12288), (xI 120), (xI 24), (xI 24), (xI 24), (xJ 24), (xJ 24), (xI 24), (xJ 192), (xI 4096), (xI 192), (xI 192), (xI 192), (xI 192), (xI 12288), (xJ 12288), (xI 12288), (xJ 16), (xI 8), (xI 192), (xI 192)]) rfl ?_
  refine wPut 324 i143_321 p143_124 rfl (by decide) rfl rfl rfl ?_
  refine tHeap (h' := [c0, c1, c2, c3, c4, c5, c6, c7, c8, c9, c10, c11, c12, c13, c14, c15, c16, c17, c18, c19, c20, c21, c22, c23, c24, c25, c26, c27, c28, c29, c30, c31, c32, c33, c34, c35, c36, c37, c38, c39, c40, c41, c42, c43, c44, c45, c46, c47, c48, c49, c50, c51, c52, c53, c54, c55, c56, c57, c58, c59, c60, c61, c62, c63, c64, c65, c66, c67, c68, c69, c70, c71, c72, c73, c74, c75, c76, .inr (7, [.int 0, .ref 78, .ref 79, .ref 80, .ref 81, .ref 82, .ref 83, .ref 84, .ref 85, .int 99, .ref 86, .ref 87, .ref 88, .ref 89, .ref 90, .ref 91, .ref 92, .ref 93, .ref 94, .int 0, .int 0, .int 0, .int 0, .int 0, .int 0, .int 0, .int 0, .ref 95, .ref 96, .ref 97, .ref 98, .ref 99, .ref 100, .ref 101, .ref 102, .int 0, .int 0, .int 0, .long 0, .int 0, .ref 103, .ref 104, .ref 105, .ref 106, .ref 107, .ref 108, .ref 109, .ref 110, .ref 111, .ref 112, .ref 113, .null, .null, .null, .null, .null, .null, .null, .null, .null, .null, .null, .null, .int 0, .int 0, .null, .null, .null, .null]), (xI 8), (xI 192), (xI 192), (xI 192), (xJ 192), (xJ 192), (xI 192), (xJ 1536), (xI 192), (xI 192), (xZ 192), (xI 192), (xI 192), (xI 12288), (xJ 12288), (xI 12288), (xI 120), (xI 24), (xI 24), (xI 24), (xJ 24), (xJ 24), (xI 24), (xJ 192), (xI 4096), (xI 192), (xI 192), (xI 192), (xI 192), (xI 12288), (xJ 12288), (xI 12288), (xJ 16), (xI 8), (xI 192), (xI 192)]) rfl ?_
  refine wLan 325 i143_324 rfl rfl ?_
  refine wKs 328 192 i143_325 (by decide) rfl ?_
  refine eNewA (n := 114) (N := 192) (c := (xI 192)) 16 40108 15 39916 i143_328 (by decide) (by decide) rfl rfl rfl rfl ?_
  refine tHeap (h' := [c0, c1, c2, c3, c4, c5, c6, c7, c8, c9, c10, c11, c12, c13, c14, c15, c16, c17, c18, c19, c20, c21, c22, c23, c24, c25, c26, c27, c28, c29, c30, c31, c32, c33, c34, c35, c36, c37, c38, c39, c40, c41, c42, c43, c44, c45, c46, c47, c48, c49, c50, c51, c52, c53, c54, c55, c56, c57, c58, c59, c60, c61, c62, c63, c64, c65, c66, c67, c68, c69, c70, c71, c72, c73, c74, c75, c76, .inr (7, [.int 0, .ref 78, .ref 79, .ref 80, .ref 81, .ref 82, .ref 83, .ref 84, .ref 85, .int 99, .ref 86, .ref 87, .ref 88, .ref 89, .ref 90, .ref 91, .ref 92, .ref 93, .ref 94, .int 0, .int 0, .int 0, .int 0, .int 0, .int 0, .int 0, .int 0, .ref 95, .ref 96, .ref 97, .ref 98, .ref 99, .ref 100, .ref 101, .ref 102, .int 0, .int 0, .int 0, .long 0, .int 0, .ref 103, .ref 104, .ref 105, .ref 106, .ref 107, .ref 108, .ref 109, .ref 110, .ref 111, .ref 112, .ref 113, .null, .null, .null, .null, .null, .null, .null, .null, .null, .null, .null, .null, .int 0, .int 0, .null, .null, .null, .null]), (xI 8), (xI 192), (xI 192), (xI 192), (xJ 192), (xJ 192), (xI 192), (xJ 1536), (xI 192), (xI 192), (xZ 192), (xI 192), (xI 192), (xI 12288), (xJ 12288), (xI 12288), (xI 120), (xI 24), (xI 24), (xI 24), (xJ 24), (xJ 24), (xI 24), (xJ 192), (xI 4096), (xI 192), (xI 192), (xI 192), (xI 192), (xI 12288), (xJ 12288), (xI 12288), (xJ 16), (xI 8), (xI 192), (xI 192), (xI 192)]) rfl ?_
  refine wPut 333 i143_330 p143_127 rfl (by decide) rfl rfl rfl ?_
  refine tHeap (h' := [c0, c1, c2, c3, c4, c5, c6, c7, c8, c9, c10, c11, c12, c13, c14, c15, c16, c17, c18, c19, c20, c21, c22, c23, c24, c25, c26, c27, c28, c29, c30, c31, c32, c33, c34, c35, c36, c37, c38, c39, c40, c41, c42, c43, c44, c45, c46, c47, c48, c49, c50, c51, c52, c53, c54, c55, c56, c57, c58, c59, c60, c61, c62, c63, c64, c65, c66, c67, c68, c69, c70, c71, c72, c73, c74, c75, c76, .inr (7, [.int 0, .ref 78, .ref 79, .ref 80, .ref 81, .ref 82, .ref 83, .ref 84, .ref 85, .int 99, .ref 86, .ref 87, .ref 88, .ref 89, .ref 90, .ref 91, .ref 92, .ref 93, .ref 94, .int 0, .int 0, .int 0, .int 0, .int 0, .int 0, .int 0, .int 0, .ref 95, .ref 96, .ref 97, .ref 98, .ref 99, .ref 100, .ref 101, .ref 102, .int 0, .int 0, .int 0, .long 0, .int 0, .ref 103, .ref 104, .ref 105, .ref 106, .ref 107, .ref 108, .ref 109, .ref 110, .ref 111, .ref 112, .ref 113, .ref 114, .null, .null, .null, .null, .null, .null, .null, .null, .null, .null, .null, .int 0, .int 0, .null, .null, .null, .null]), (xI 8), (xI 192), (xI 192), (xI 192), (xJ 192), (xJ 192), (xI 192), (xJ 1536), (xI 192), (xI 192), (xZ 192), (xI 192), (xI 192), (xI 12288), (xJ 12288), (xI 12288), (xI 120), (xI 24), (xI 24), (xI 24), (xJ 24), (xJ 24), (xI 24), (xJ 192), (xI 4096), (xI 192), (xI 192), (xI 192), (xI 192), (xI 12288), (xJ 12288), (xI 12288), (xJ 16), (xI 8), (xI 192), (xI 192), (xI 192)]) rfl ?_
  refine wLan 334 i143_333 rfl rfl ?_
  refine wKs 337 192 i143_334 (by decide) rfl ?_
  refine eNewA (n := 115) (N := 192) (c := (xJ 192)) 15 39916 14 39724 i143_337 (by decide) (by decide) rfl rfl rfl rfl ?_
  refine tHeap (h' := [c0, c1, c2, c3, c4, c5, c6, c7, c8, c9, c10, c11, c12, c13, c14, c15, c16, c17, c18, c19, c20, c21, c22, c23, c24, c25, c26, c27, c28, c29, c30, c31, c32, c33, c34, c35, c36, c37, c38, c39, c40, c41, c42, c43, c44, c45, c46, c47, c48, c49, c50, c51, c52, c53, c54, c55, c56, c57, c58, c59, c60, c61, c62, c63, c64, c65, c66, c67, c68, c69, c70, c71, c72, c73, c74, c75, c76, .inr (7, [.int 0, .ref 78, .ref 79, .ref 80, .ref 81, .ref 82, .ref 83, .ref 84, .ref 85, .int 99, .ref 86, .ref 87, .ref 88, .ref 89, .ref 90, .ref 91, .ref 92, .ref 93, .ref 94, .int 0, .int 0, .int 0, .int 0, .int 0, .int 0, .int 0, .int 0, .ref 95, .ref 96, .ref 97, .ref 98, .ref 99, .ref 100, .ref 101, .ref 102, .int 0, .int 0, .int 0, .long 0, .int 0, .ref 103, .ref 104, .ref 105, .ref 106, .ref 107, .ref 108, .ref 109, .ref 110, .ref 111, .ref 112, .ref 113, .ref 114, .null, .null, .null, .null, .null, .null, .null, .null, .null, .null, .null, .int 0, .int 0, .null, .null, .null, .null]), (xI 8), (xI 192), (xI 192), (xI 192), (xJ 192), (xJ 192), (xI 192), (xJ 1536), (xI 192), (xI 192), (xZ 192), (xI 192), (xI 192), (xI 12288), (xJ 12288), (xI 12288), (xI 120), (xI 24), (xI 24), (xI 24), (xJ 24), (xJ 24), (xI 24), (xJ 192), (xI 4096), (xI 192), (xI 192), (xI 192), (xI 192), (xI 12288), (xJ 12288), (xI 12288), (xJ 16), (xI 8), (xI 192), (xI 192), (xI 192), (xJ 192)]) rfl ?_
  refine wPut 342 i143_339 p143_130 rfl (by decide) rfl rfl rfl ?_
  refine tHeap (h' := [c0, c1, c2, c3, c4, c5, c6, c7, c8, c9, c10, c11, c12, c13, c14, c15, c16, c17, c18, c19, c20, c21, c22, c23, c24, c25, c26, c27, c28, c29, c30, c31, c32, c33, c34, c35, c36, c37, c38, c39, c40, c41, c42, c43, c44, c45, c46, c47, c48, c49, c50, c51, c52, c53, c54, c55, c56, c57, c58, c59, c60, c61, c62, c63, c64, c65, c66, c67, c68, c69, c70, c71, c72, c73, c74, c75, c76, .inr (7, [.int 0, .ref 78, .ref 79, .ref 80, .ref 81, .ref 82, .ref 83, .ref 84, .ref 85, .int 99, .ref 86, .ref 87, .ref 88, .ref 89, .ref 90, .ref 91, .ref 92, .ref 93, .ref 94, .int 0, .int 0, .int 0, .int 0, .int 0, .int 0, .int 0, .int 0, .ref 95, .ref 96, .ref 97, .ref 98, .ref 99, .ref 100, .ref 101, .ref 102, .int 0, .int 0, .int 0, .long 0, .int 0, .ref 103, .ref 104, .ref 105, .ref 106, .ref 107, .ref 108, .ref 109, .ref 110, .ref 111, .ref 112, .ref 113, .ref 114, .ref 115, .null, .null, .null, .null, .null, .null, .null, .null, .null, .null, .int 0, .int 0, .null, .null, .null, .null]), (xI 8), (xI 192), (xI 192), (xI 192), (xJ 192), (xJ 192), (xI 192), (xJ 1536), (xI 192), (xI 192), (xZ 192), (xI 192), (xI 192), (xI 12288), (xJ 12288), (xI 12288), (xI 120), (xI 24), (xI 24), (xI 24), (xJ 24), (xJ 24), (xI 24), (xJ 192), (xI 4096), (xI 192), (xI 192), (xI 192), (xI 192), (xI 12288), (xJ 12288), (xI 12288), (xJ 16), (xI 8), (xI 192), (xI 192), (xI 192), (xJ 192)]) rfl ?_
  refine wLan 343 i143_342 rfl rfl ?_
  refine wKs 346 192 i143_343 (by decide) rfl ?_
  refine eNewA (n := 116) (N := 192) (c := (xJ 192)) 14 39724 13 39532 i143_346 (by decide) (by decide) rfl rfl rfl rfl ?_
  refine tHeap (h' := [c0, c1, c2, c3, c4, c5, c6, c7, c8, c9, c10, c11, c12, c13, c14, c15, c16, c17, c18, c19, c20, c21, c22, c23, c24, c25, c26, c27, c28, c29, c30, c31, c32, c33, c34, c35, c36, c37, c38, c39, c40, c41, c42, c43, c44, c45, c46, c47, c48, c49, c50, c51, c52, c53, c54, c55, c56, c57, c58, c59, c60, c61, c62, c63, c64, c65, c66, c67, c68, c69, c70, c71, c72, c73, c74, c75, c76, .inr (7, [.int 0, .ref 78, .ref 79, .ref 80, .ref 81, .ref 82, .ref 83, .ref 84, .ref 85, .int 99, .ref 86, .ref 87, .ref 88, .ref 89, .ref 90, .ref 91, .ref 92, .ref 93, .ref 94, .int 0, .int 0, .int 0, .int 0, .int 0, .int 0, .int 0, .int 0, .ref 95, .ref 96, .ref 97, .ref 98, .ref 99, .ref 100, .ref 101, .ref 102, .int 0, .int 0, .int 0, .long 0, .int 0, .ref 103, .ref 104, .ref 105, .ref 106, .ref 107, .ref 108, .ref 109, .ref 110, .ref 111, .ref 112, .ref 113, .ref 114, .ref 115, .null, .null, .null, .null, .null, .null, .null, .null, .null, .null, .int 0, .int 0, .null, .null, .null, .null]), (xI 8), (xI 192), (xI 192), (xI 192), (xJ 192), (xJ 192), (xI 192), (xJ 1536), (xI 192), (xI 192), (xZ 192), (xI 192), (xI 192), (xI 12288), (xJ 12288), (xI 12288), (xI 120), (xI 24), (xI 24), (xI 24), (xJ 24), (xJ 24), (xI 24), (xJ 192), (xI 4096), (xI 192), (xI 192), (xI 192), (xI 192), (xI 12288), (xJ 12288), (xI 12288), (xJ 16), (xI 8), (xI 192), (xI 192), (xI 192), (xJ 192), (xJ 192)]) rfl ?_
  refine wPut 351 i143_348 p143_133 rfl (by decide) rfl rfl rfl ?_
  refine tHeap (h' := [c0, c1, c2, c3, c4, c5, c6, c7, c8, c9, c10, c11, c12, c13, c14, c15, c16, c17, c18, c19, c20, c21, c22, c23, c24, c25, c26, c27, c28, c29, c30, c31, c32, c33, c34, c35, c36, c37, c38, c39, c40, c41, c42, c43, c44, c45, c46, c47, c48, c49, c50, c51, c52, c53, c54, c55, c56, c57, c58, c59, c60, c61, c62, c63, c64, c65, c66, c67, c68, c69, c70, c71, c72, c73, c74, c75, c76, .inr (7, [.int 0, .ref 78, .ref 79, .ref 80, .ref 81, .ref 82, .ref 83, .ref 84, .ref 85, .int 99, .ref 86, .ref 87, .ref 88, .ref 89, .ref 90, .ref 91, .ref 92, .ref 93, .ref 94, .int 0, .int 0, .int 0, .int 0, .int 0, .int 0, .int 0, .int 0, .ref 95, .ref 96, .ref 97, .ref 98, .ref 99, .ref 100, .ref 101, .ref 102, .int 0, .int 0, .int 0, .long 0, .int 0, .ref 103, .ref 104, .ref 105, .ref 106, .ref 107, .ref 108, .ref 109, .ref 110, .ref 111, .ref 112, .ref 113, .ref 114, .ref 115, .ref 116, .null, .null, .null, .null, .null, .null, .null, .null, .null, .int 0, .int 0, .null, .null, .null, .null]), (xI 8), (xI 192), (xI 192), (xI 192), (xJ 192), (xJ 192), (xI 192), (xJ 1536), (xI 192), (xI 192), (xZ 192), (xI 192), (xI 192), (xI 12288), (xJ 12288), (xI 12288), (xI 120), (xI 24), (xI 24), (xI 24), (xJ 24), (xJ 24), (xI 24), (xJ 192), (xI 4096), (xI 192), (xI 192), (xI 192), (xI 192), (xI 12288), (xJ 12288), (xI 12288), (xJ 16), (xI 8), (xI 192), (xI 192), (xI 192), (xJ 192), (xJ 192)]) rfl ?_
  refine wLan 352 i143_351 rfl rfl ?_
  refine wKs 355 192 i143_352 (by decide) rfl ?_
  refine eNewA (n := 117) (N := 192) (c := (xI 192)) 13 39532 12 39340 i143_355 (by decide) (by decide) rfl rfl rfl rfl ?_
  refine tHeap (h' := [c0, c1, c2, c3, c4, c5, c6, c7, c8, c9, c10, c11, c12, c13, c14, c15, c16, c17, c18, c19, c20, c21, c22, c23, c24, c25, c26, c27, c28, c29, c30, c31, c32, c33, c34, c35, c36, c37, c38, c39, c40, c41, c42, c43, c44, c45, c46, c47, c48, c49, c50, c51, c52, c53, c54, c55, c56, c57, c58, c59, c60, c61, c62, c63, c64, c65, c66, c67, c68, c69, c70, c71, c72, c73, c74, c75, c76, .inr (7, [.int 0, .ref 78, .ref 79, .ref 80, .ref 81, .ref 82, .ref 83, .ref 84, .ref 85, .int 99, .ref 86, .ref 87, .ref 88, .ref 89, .ref 90, .ref 91, .ref 92, .ref 93, .ref 94, .int 0, .int 0, .int 0, .int 0, .int 0, .int 0, .int 0, .int 0, .ref 95, .ref 96, .ref 97, .ref 98, .ref 99, .ref 100, .ref 101, .ref 102, .int 0, .int 0, .int 0, .long 0, .int 0, .ref 103, .ref 104, .ref 105, .ref 106, .ref 107, .ref 108, .ref 109, .ref 110, .ref 111, .ref 112, .ref 113, .ref 114, .ref 115, .ref 116, .null, .null, .null, .null, .null, .null, .null, .null, .null, .int 0, .int 0, .null, .null, .null, .null]), (xI 8), (xI 192), (xI 192), (xI 192), (xJ 192), (xJ 192), (xI 192), (xJ 1536), (xI 192), (xI 192), (xZ 192), (xI 192), (xI 192), (xI 12288), (xJ 12288), (xI 12288), (xI 120), (xI 24), (xI 24), (xI 24), (xJ 24), (xJ 24), (xI 24), (xJ 192), (xI 4096), (xI 192), (xI 192), (xI 192), (xI 192), (xI 12288), (xJ 12288), (xI 12288), (xJ 16), (xI 8), (xI 192), (xI 192), (xI 192), (xJ 192), (xJ 192), (xI 192)]) rfl ?_
  refine wPut 360 i143_357 p143_136 rfl (by decide) rfl rfl rfl ?_
  refine tHeap (h' := [c0, c1, c2, c3, c4, c5, c6, c7, c8, c9, c10, c11, c12, c13, c14, c15, c16, c17, c18, c19, c20, c21, c22, c23, c24, c25, c26, c27, c28, c29, c30, c31, c32, c33, c34, c35, c36, c37, c38, c39, c40, c41, c42, c43, c44, c45, c46, c47, c48, c49, c50, c51, c52, c53, c54, c55, c56, c57, c58, c59, c60, c61, c62, c63, c64, c65, c66, c67, c68, c69, c70, c71, c72, c73, c74, c75, c76, .inr (7, [.int 0, .ref 78, .ref 79, .ref 80, .ref 81, .ref 82, .ref 83, .ref 84, .ref 85, .int 99, .ref 86, .ref 87, .ref 88, .ref 89, .ref 90, .ref 91, .ref 92, .ref 93, .ref 94, .int 0, .int 0, .int 0, .int 0, .int 0, .int 0, .int 0, .int 0, .ref 95, .ref 96, .ref 97, .ref 98, .ref 99, .ref 100, .ref 101, .ref 102, .int 0, .int 0, .int 0, .long 0, .int 0, .ref 103, .ref 104, .ref 105, .ref 106, .ref 107, .ref 108, .ref 109, .ref 110, .ref 111, .ref 112, .ref 113, .ref 114, .ref 115, .ref 116, .ref 117, .null, .null, .null, .null, .null, .null, .null, .null, .int 0, .int 0, .null, .null, .null, .null]), (xI 8), (xI 192), (xI 192), (xI 192), (xJ 192), (xJ 192), (xI 192), (xJ 1536), (xI 192), (xI 192), (xZ 192), (xI 192), (xI 192), (xI 12288), (xJ 12288), (xI 12288), (xI 120), (xI 24), (xI 24), (xI 24), (xJ 24), (xJ 24), (xI 24), (xJ 192), (xI 4096), (xI 192), (xI 192), (xI 192), (xI 192), (xI 12288), (xJ 12288), (xI 12288), (xJ 16), (xI 8), (xI 192), (xI 192), (xI 192), (xJ 192), (xJ 192), (xI 192)]) rfl ?_
  refine wLan 361 i143_360 rfl rfl ?_
  refine wKs 364 1536 i143_361 (by decide) rfl ?_
  refine eNewA (n := 118) (N := 1536) (c := (xJ 1536)) 12 39340 11 37804 i143_364 (by decide) (by decide) rfl rfl rfl rfl ?_
  refine tHeap (h' := [c0, c1, c2, c3, c4, c5, c6, c7, c8, c9, c10, c11, c12, c13, c14, c15, c16, c17, c18, c19, c20, c21, c22, c23, c24, c25, c26, c27, c28, c29, c30, c31, c32, c33, c34, c35, c36, c37, c38, c39, c40, c41, c42, c43, c44, c45, c46, c47, c48, c49, c50, c51, c52, c53, c54, c55, c56, c57, c58, c59, c60, c61, c62, c63, c64, c65, c66, c67, c68, c69, c70, c71, c72, c73, c74, c75, c76, .inr (7, [.int 0, .ref 78, .ref 79, .ref 80, .ref 81, .ref 82, .ref 83, .ref 84, .ref 85, .int 99, .ref 86, .ref 87, .ref 88, .ref 89, .ref 90, .ref 91, .ref 92, .ref 93, .ref 94, .int 0, .int 0, .int 0, .int 0, .int 0, .int 0, .int 0, .int 0, .ref 95, .ref 96, .ref 97, .ref 98, .ref 99, .ref 100, .ref 101, .ref 102, .int 0, .int 0, .int 0, .long 0, .int 0, .ref 103, .ref 104, .ref 105, .ref 106, .ref 107, .ref 108, .ref 109, .ref 110, .ref 111, .ref 112, .ref 113, .ref 114, .ref 115, .ref 116, .ref 117, .null, .null, .null, .null, .null, .null, .null, .null, .int 0, .int 0, .null, .null, .null, .null]), (xI 8), (xI 192), (xI 192), (xI 192), (xJ 192), (xJ 192), (xI 192), (xJ 1536), (xI 192), (xI 192), (xZ 192), (xI 192), (xI 192), (xI 12288), (xJ 12288), (xI 12288), (xI 120), (xI 24), (xI 24), (xI 24), (xJ 24), (xJ 24), (xI 24), (xJ 192), (xI 4096), (xI 192), (xI 192), (xI 192), (xI 192), (xI 12288), (xJ 12288), (xI 12288), (xJ 16), (xI 8), (xI 192), (xI 192), (xI 192), (xJ 192), (xJ 192), (xI 192), (xJ 1536)]) rfl ?_
  refine wPut 369 i143_366 p143_139 rfl (by decide) rfl rfl rfl ?_
  refine tHeap (h' := [c0, c1, c2, c3, c4, c5, c6, c7, c8, c9, c10, c11, c12, c13, c14, c15, c16, c17, c18, c19, c20, c21, c22, c23, c24, c25, c26, c27, c28, c29, c30, c31, c32, c33, c34, c35, c36, c37, c38, c39, c40, c41, c42, c43, c44, c45, c46, c47, c48, c49, c50, c51, c52, c53, c54, c55, c56, c57, c58, c59, c60, c61, c62, c63, c64, c65, c66, c67, c68, c69, c70, c71, c72, c73, c74, c75, c76, .inr (7, [.int 0, .ref 78, .ref 79, .ref 80, .ref 81, .ref 82, .ref 83, .ref 84, .ref 85, .int 99, .ref 86, .ref 87, .ref 88, .ref 89, .ref 90, .ref 91, .ref 92, .ref 93, .ref 94, .int 0, .int 0, .int 0, .int 0, .int 0, .int 0, .int 0, .int 0, .ref 95, .ref 96, .ref 97, .ref 98, .ref 99, .ref 100, .ref 101, .ref 102, .int 0, .int 0, .int 0, .long 0, .int 0, .ref 103, .ref 104, .ref 105, .ref 106, .ref 107, .ref 108, .ref 109, .ref 110, .ref 111, .ref 112, .ref 113, .ref 114, .ref 115, .ref 116, .ref 117, .ref 118, .null, .null, .null, .null, .null, .null, .null, .int 0, .int 0, .null, .null, .null, .null]), (xI 8), (xI 192), (xI 192), (xI 192), (xJ 192), (xJ 192), (xI 192), (xJ 1536), (xI 192), (xI 192), (xZ 192), (xI 192), (xI 192), (xI 12288), (xJ 12288), (xI 12288), (xI 120), (xI 24), (xI 24), (xI 24), (xJ 24), (xJ 24), (xI 24), (xJ 192), (xI 4096), (xI 192), (xI 192), (xI 192), (xI 192), (xI 12288), (xJ 12288), (xI 12288), (xJ 16), (xI 8), (xI 192), (xI 192), (xI 192), (xJ 192), (xJ 192), (xI 192), (xJ 1536)]) rfl ?_
  refine wLan 370 i143_369 rfl rfl ?_
  refine wKs 373 192 i143_370 (by decide) rfl ?_
  refine eNewA (n := 119) (N := 192) (c := (xI 192)) 11 37804 10 37612 i143_373 (by decide) (by decide) rfl rfl rfl rfl ?_
  refine tHeap (h' := [c0, c1, c2, c3, c4, c5, c6, c7, c8, c9, c10, c11, c12, c13, c14, c15, c16, c17, c18, c19, c20, c21, c22, c23, c24, c25, c26, c27, c28, c29, c30, c31, c32, c33, c34, c35, c36, c37, c38, c39, c40, c41, c42, c43, c44, c45, c46, c47, c48, c49, c50, c51, c52, c53, c54, c55, c56, c57, c58, c59, c60, c61, c62, c63, c64, c65, c66, c67, c68, c69, c70, c71, c72, c73, c74, c75, c76, .inr (7, [.int 0, .ref 78, .ref 79, .ref 80, .ref 81, .ref 82, .ref 83, .ref 84, .ref 85, .int 99, .ref 86, .ref 87, .ref 88, .ref 89, .ref 90, .ref 91, .ref 92, .ref 93, .ref 94, .int 0, .int 0, .int 0, .int 0, .int 0, .int 0, .int 0, .int 0, .ref 95, .ref 96, .ref 97, .ref 98, .ref 99, .ref 100, .ref 101, .ref 102, .int 0, .int 0, .int 0, .long 0, .int 0, .ref 103, .ref 104, .ref 105, .ref 106, .ref 107, .ref 108, .ref 109, .ref 110, .ref 111, .ref 112, .ref 113, .ref 114, .ref 115, .ref 116, .ref 117, .ref 118, .null, .null, .null, .null, .null, .null, .null, .int 0, .int 0, .null, .null, .null, .null]), (xI 8), (xI 192), (xI 192), (xI 192), (xJ 192), (xJ 192), (xI 192), (xJ 1536), (xI 192), (xI 192), (xZ 192), (xI 192), (xI 192), (xI 12288), (xJ 12288), (xI 12288), (xI 120), (xI 24), (xI 24), (xI 24), (xJ 24), (xJ 24), (xI 24), (xJ 192), (xI 4096), (xI 192), (xI 192), (xI 192), (xI 192), (xI 12288), (xJ 12288), (xI 12288), (xJ 16), (xI 8), (xI 192), (xI 192), (xI 192), (xJ 192), (xJ 192), (xI 192), (xJ 1536), (xI 192)]) rfl ?_
  refine wPut 378 i143_375 p143_142 rfl (by decide) rfl rfl rfl ?_
  refine tHeap (h' := [c0, c1, c2, c3, c4, c5, c6, c7, c8, c9, c10, c11, c12, c13, c14, c15, c16, c17, c18, c19, c20, c21, c22, c23, c24, c25, c26, c27, c28, c29, c30, c31, c32, c33, c34, c35, c36, c37, c38, c39, c40, c41, c42, c43, c44, c45, c46, c47, c48, c49, c50, c51, c52, c53, c54, c55, c56, c57, c58, c59, c60, c61, c62, c63, c64, c65, c66, c67, c68, c69, c70, c71, c72, c73, c74, c75, c76, .inr (7, [.int 0, .ref 78, .ref 79, .ref 80, .ref 81, .ref 82, .ref 83, .ref 84, .ref 85, .int 99, .ref 86, .ref 87, .ref 88, .ref 89, .ref 90, .ref 91, .ref 92, .ref 93, .ref 94, .int 0, .int 0, .int 0, .int 0, .int 0, .int 0, .int 0, .int 0, .ref 95, .ref 96, .ref 97, .ref 98, .ref 99, .ref 100, .ref 101, .ref 102, .int 0, .int 0, .int 0, .long 0, .int 0, .ref 103, .ref 104, .ref 105, .ref 106, .ref 107, .ref 108, .ref 109, .ref 110, .ref 111, .ref 112, .ref 113, .ref 114, .ref 115, .ref 116, .ref 117, .ref 118, .ref 119, .null, .null, .null, .null, .null, .null, .int 0, .int 0, .null, .null, .null, .null]), (xI 8), (xI 192), (xI 192), (xI 192), (xJ 192), (xJ 192), (xI 192), (xJ 1536), (xI 192), (xI 192), (xZ 192), (xI 192), (xI 192), (xI 12288), (xJ 12288), (xI 12288), (xI 120), (xI 24), (xI 24), (xI 24), (xJ 24), (xJ 24), (xI 24), (xJ 192), (xI 4096), (xI 192), (xI 192), (xI 192), (xI 192), (xI 12288), (xJ 12288), (xI 12288), (xJ 16), (xI 8), (xI 192), (xI 192), (xI 192), (xJ 192), (xJ 192), (xI 192), (xJ 1536), (xI 192)]) rfl ?_
  refine wLan 379 i143_378 rfl rfl ?_
  refine wKs 382 192 i143_379 (by decide) rfl ?_
  refine eNewA (n := 120) (N := 192) (c := (xI 192)) 10 37612 9 37420 i143_382 (by decide) (by decide) rfl rfl rfl rfl ?_
  refine tHeap (h' := [c0, c1, c2, c3, c4, c5, c6, c7, c8, c9, c10, c11, c12, c13, c14, c15, c16, c17, c18, c19, c20, c21, c22, c23, c24, c25, c26, c27, c28, c29, c30, c31, c32, c33, c34, c35, c36, c37, c38, c39, c40, c41, c42, c43, c44, c45, c46, c47, c48, c49, c50, c51, c52, c53, c54, c55, c56, c57, c58, c59, c60, c61, c62, c63, c64, c65, c66, c67, c68, c69, c70, c71, c72, c73, c74, c75, c76, .inr (7, [.int 0, .ref 78, .ref 79, .ref 80, .ref 81, .ref 82, .ref 83, .ref 84, .ref 85, .int 99, .ref 86, .ref 87, .ref 88, .ref 89, .ref 90, .ref 91, .ref 92, .ref 93, .ref 94, .int 0, .int 0, .int 0, .int 0, .int 0, .int 0, .int 0, .int 0, .ref 95, .ref 96, .ref 97, .ref 98, .ref 99, .ref 100, .ref 101, .ref 102, .int 0, .int 0, .int 0, .long 0, .int 0, .ref 103, .ref 104, .ref 105, .ref 106, .ref 107, .ref 108, .ref 109, .ref 110, .ref 111, .ref 112, .ref 113, .ref 114, .ref 115, .ref 116, .ref 117, .ref 118, .ref 119, .null, .null, .null, .null, .null, .null, .int 0, .int 0, .null, .null, .null, .null]), (xI 8), (xI 192), (xI 192), (xI 192), (xJ 192), (xJ 192), (xI 192), (xJ 1536), (xI 192), (xI 192), (xZ 192), (xI 192), (xI 192), (xI 12288), (xJ 12288), (xI 12288), (xI 120), (xI 24), (xI 24), (xI 24), (xJ 24), (xJ 24), (xI 24), (xJ 192), (xI 4096), (xI 192), (xI 192), (xI 192), (xI 192), (xI 12288), (xJ 12288), (xI 12288), (xJ 16), (xI 8), (xI 192), (xI 192), (xI 192), (xJ 192), (xJ 192), (xI 192), (xJ 1536), (xI 192), (xI 192)]) rfl ?_
  refine wPut 387 i143_384 p143_145 rfl (by decide) rfl rfl rfl ?_
  refine tHeap (h' := [c0, c1, c2, c3, c4, c5, c6, c7, c8, c9, c10, c11, c12, c13, c14, c15, c16, c17, c18, c19, c20, c21, c22, c23, c24, c25, c26, c27, c28, c29, c30, c31, c32, c33, c34, c35, c36, c37, c38, c39, c40, c41, c42, c43, c44, c45, c46, c47, c48, c49, c50, c51, c52, c53, c54, c55, c56, c57, c58, c59, c60, c61, c62, c63, c64, c65, c66, c67, c68, c69, c70, c71, c72, c73, c74, c75, c76, .inr (7, [.int 0, .ref 78, .ref 79, .ref 80, .ref 81, .ref 82, .ref 83, .ref 84, .ref 85, .int 99, .ref 86, .ref 87, .ref 88, .ref 89, .ref 90, .ref 91, .ref 92, .ref 93, .ref 94, .int 0, .int 0, .int 0, .int 0, .int 0, .int 0, .int 0, .int 0, .ref 95, .ref 96, .ref 97, .ref 98, .ref 99, .ref 100, .ref 101, .ref 102, .int 0, .int 0, .int 0, .long 0, .int 0, .ref 103, .ref 104, .ref 105, .ref 106, .ref 107, .ref 108, .ref 109, .ref 110, .ref 111, .ref 112, .ref 113, .ref 114, .ref 115, .ref 116, .ref 117, .ref 118, .ref 119, .ref 120, .null, .null, .null, .null, .null, .int 0, .int 0, .null, .null, .null, .null]), (xI 8), (xI 192), (xI 192), (xI 192), (xJ 192), (xJ 192), (xI 192), (xJ 1536), (xI 192), (xI 192), (xZ 192), (xI 192), (xI 192), (xI 12288), (xJ 12288), (xI 12288), (xI 120), (xI 24), (xI 24), (xI 24), (xJ 24), (xJ 24), (xI 24), (xJ 192), (xI 4096), (xI 192), (xI 192), (xI 192), (xI 192), (xI 12288), (xJ 12288), (xI 12288), (xJ 16), (xI 8), (xI 192), (xI 192), (xI 192), (xJ 192), (xJ 192), (xI 192), (xJ 1536), (xI 192), (xI 192)]) rfl ?_
  refine wLan 388 i143_387 rfl rfl ?_
  refine wKs 391 192 i143_388 (by decide) rfl ?_
  refine eNewA (n := 121) (N := 192) (c := (xI 192)) 9 37420 8 37228 i143_391 (by decide) (by decide) rfl rfl rfl rfl ?_
  refine tHeap (h' := [c0, c1, c2, c3, c4, c5, c6, c7, c8, c9, c10, c11, c12, c13, c14, c15, c16, c17, c18, c19, c20, c21, c22, c23, c24, c25, c26, c27, c28, c29, c30, c31, c32, c33, c34, c35, c36, c37, c38, c39, c40, c41, c42, c43, c44, c45, c46, c47, c48, c49, c50, c51, c52, c53, c54, c55, c56, c57, c58, c59, c60, c61, c62, c63, c64, c65, c66, c67, c68, c69, c70, c71, c72, c73, c74, c75, c76, .inr (7, [.int 0, .ref 78, .ref 79, .ref 80, .ref 81, .ref 82, .ref 83, .ref 84, .ref 85, .int 99, .ref 86, .ref 87, .ref 88, .ref 89, .ref 90, .ref 91, .ref 92, .ref 93, .ref 94, .int 0, .int 0, .int 0, .int 0, .int 0, .int 0, .int 0, .int 0, .ref 95, .ref 96, .ref 97, .ref 98, .ref 99, .ref 100, .ref 101, .ref 102, .int 0, .int 0, .int 0, .long 0, .int 0, .ref 103, .ref 104, .ref 105, .ref 106, .ref 107, .ref 108, .ref 109, .ref 110, .ref 111, .ref 112, .ref 113, .ref 114, .ref 115, .ref 116, .ref 117, .ref 118, .ref 119, .ref 120, .null, .null, .null, .null, .null, .int 0, .int 0, .null, .null, .null, .null]), (xI 8), (xI 192), (xI 192), (xI 192), (xJ 192), (xJ 192), (xI 192), (xJ 1536), (xI 192), (xI 192), (xZ 192), (xI 192), (xI 192), (xI 12288), (xJ 12288), (xI 12288), (xI 120), (xI 24), (xI 24), (xI 24), (xJ 24), (xJ 24), (xI 24), (xJ 192), (xI 4096), (xI 192), (xI 192), (xI 192), (xI 192), (xI 12288), (xJ 12288), (xI 12288), (xJ 16), (xI 8), (xI 192), (xI 192), (xI 192), (xJ 192), (xJ 192), (xI 192), (xJ 1536), (xI 192), (xI 192), (xI 192)]) rfl ?_
  refine wPut 396 i143_393 p143_148 rfl (by decide) rfl rfl rfl ?_
  refine tHeap (h' := [c0, c1, c2, c3, c4, c5, c6, c7, c8, c9, c10, c11, c12, c13, c14, c15, c16, c17, c18, c19, c20, c21, c22, c23, c24, c25, c26, c27, c28, c29, c30, c31, c32, c33, c34, c35, c36, c37, c38, c39, c40, c41, c42, c43, c44, c45, c46, c47, c48, c49, c50, c51, c52, c53, c54, c55, c56, c57, c58, c59, c60, c61, c62, c63, c64, c65, c66, c67, c68, c69, c70, c71, c72, c73, c74, c75, c76, .inr (7, [.int 0, .ref 78, .ref 79, .ref 80, .ref 81, .ref 82, .ref 83, .ref 84, .ref 85, .int 99, .ref 86, .ref 87, .ref 88, .ref 89, .ref 90, .ref 91, .ref 92, .ref 93, .ref 94, .int 0, .int 0, .int 0, .int 0, .int 0, .int 0, .int 0, .int 0, .ref 95, .ref 96, .ref 97, .ref 98, .ref 99, .ref 100, .ref 101, .ref 102, .int 0, .int 0, .int 0, .long 0, .int 0, .ref 103, .ref 104, .ref 105, .ref 106, .ref 107, .ref 108, .ref 109, .ref 110, .ref 111, .ref 112, .ref 113, .ref 114, .ref 115, .ref 116, .ref 117, .ref 118, .ref 119, .ref 120, .ref 121, .null, .null, .null, .null, .int 0, .int 0, .null, .null, .null, .null]), (xI 8), (xI 192), (xI 192), (xI 192), (xJ 192), (xJ 192), (xI 192), (xJ 1536), (xI 192), (xI 192), (xZ 192), (xI 192), (xI 192), (xI 12288), (xJ 12288), (xI 12288), (xI 120), (xI 24), (xI 24), (xI 24), (xJ 24), (xJ 24), (xI 24), (xJ 192), (xI 4096), (xI 192), (xI 192), (xI 192), (xI 192), (xI 12288), (xJ 12288), (xI 12288), (xJ 16), (xI 8), (xI 192), (xI 192), (xI 192), (xJ 192), (xJ 192), (xI 192), (xJ 1536), (xI 192), (xI 192), (xI 192)]) rfl ?_
  refine wLan 397 i143_396 rfl rfl ?_
  refine wKs 400 192 i143_397 (by decide) rfl ?_
  refine eNewA (n := 122) (N := 192) (c := (xI 192)) 8 37228 7 37036 i143_400 (by decide) (by decide) rfl rfl rfl rfl ?_
  refine tHeap (h' := [c0, c1, c2, c3, c4, c5, c6, c7, c8, c9, c10, c11, c12, c13, c14, c15, c16, c17, c18, c19, c20, c21, c22, c23, c24, c25, c26, c27, c28, c29, c30, c31, c32, c33, c34, c35, c36, c37, c38, c39, c40, c41, c42, c43, c44, c45, c46, c47, c48, c49, c50, c51, c52, c53, c54, c55, c56, c57, c58, c59, c60, c61, c62, c63, c64, c65, c66, c67, c68, c69, c70, c71, c72, c73, c74, c75, c76, .inr (7, [.int 0, .ref 78, .ref 79, .ref 80, .ref 81, .ref 82, .ref 83, .ref 84, .ref 85, .int 99, .ref 86, .ref 87, .ref 88, .ref 89, .ref 90, .ref 91, .ref 92, .ref 93, .ref 94, .int 0, .int 0, .int 0, .int 0, .int 0, .int 0, .int 0, .int 0, .ref 95, .ref 96, .ref 97, .ref 98, .ref 99, .ref 100, .ref 101, .ref 102, .int 0, .int 0, .int 0, .long 0, .int 0, .ref 103, .ref 104, .ref 105, .ref 106, .ref 107, .ref 108, .ref 109, .ref 110, .ref 111, .ref 112, .ref 113, .ref 114, .ref 115, .ref 116, .ref 117, .ref 118, .ref 119, .ref 120, .ref 121, .null, .null, .null, .null, .int 0, .int 0, .null, .null, .null, .null]), (xI 8), (xI 192), (xI 192), (xI 192), (xJ 192), (xJ 192), (xI 192), (xJ 1536), (xI 192), (xI 192), (xZ 192), (xI 192), (xI 192), (xI 12288), (xJ 12288), (xI 12288), (xI 120), (xI 24), (xI 24), (xI 24), (xJ 24), (xJ 24), (xI 24), (xJ 192), (xI 4096), (xI 192), (xI 192), (xI 192), (xI 192), (xI 12288), (xJ 12288), (xI 12288), (xJ 16), (xI 8), (xI 192), (xI 192), (xI 192), (xJ 192), (xJ 192), (xI 192), (xJ 1536), (xI 192), (xI 192), (xI 192), (xI 192)]) rfl ?_
  refine wPut 405 i143_402 p143_151 rfl (by decide) rfl rfl rfl ?_
  refine tHeap (h' := [c0, c1, c2, c3, c4, c5, c6, c7, c8, c9, c10, c11, c12, c13, c14, c15, c16, c17, c18, c19, c20, c21, c22, c23, c24, c25, c26, c27, c28, c29, c30, c31, c32, c33, c34, c35, c36, c37, c38, c39, c40, c41, c42, c43, c44, c45, c46, c47, c48, c49, c50, c51, c52, c53, c54, c55, c56, c57, c58, c59, c60, c61, c62, c63, c64, c65, c66, c67, c68, c69, c70, c71, c72, c73, c74, c75, c76, .inr (7, [.int 0, .ref 78, .ref 79, .ref 80, .ref 81, .ref 82, .ref 83, .ref 84, .ref 85, .int 99, .ref 86, .ref 87, .ref 88, .ref 89, .ref 90, .ref 91, .ref 92, .ref 93, .ref 94, .int 0, .int 0, .int 0, .int 0, .int 0, .int 0, .int 0, .int 0, .ref 95, .ref 96, .ref 97, .ref 98, .ref 99, .ref 100, .ref 101, .ref 102, .int 0, .int 0, .int 0, .long 0, .int 0, .ref 103, .ref 104, .ref 105, .ref 106, .ref 107, .ref 108, .ref 109, .ref 110, .ref 111, .ref 112, .ref 113, .ref 114, .ref 115, .ref 116, .ref 117, .ref 118, .ref 119, .ref 120, .ref 121, .ref 122, .null, .null, .null, .int 0, .int 0, .null, .null, .null, .null]), (xI 8), (xI 192), (xI 192), (xI 192), (xJ 192), (xJ 192), (xI 192), (xJ 1536), (xI 192), (xI 192), (xZ 192), (xI 192), (xI 192), (xI 12288), (xJ 12288), (xI 12288), (xI 120), (xI 24), (xI 24), (xI 24), (xJ 24), (xJ 24), (xI 24), (xJ 192), (xI 4096), (xI 192), (xI 192), (xI 192), (xI 192), (xI 12288), (xJ 12288), (xI 12288), (xJ 16), (xI 8), (xI 192), (xI 192), (xI 192), (xJ 192), (xJ 192), (xI 192), (xJ 1536), (xI 192), (xI 192), (xI 192), (xI 192)]) rfl ?_
  refine wLan 406 i143_405 rfl rfl ?_
  refine wKs 409 12288 i143_406 (by decide) rfl ?_
  refine eNewA (n := 123) (N := 12288) (c := (xI 12288)) 7 37036 6 24748 i143_409 (by decide) (by decide) rfl rfl rfl rfl ?_
  refine tHeap (h' := [c0, c1, c2, c3, c4, c5, c6, c7, c8, c9, c10, c11, c12, c13, c14, c15, c16, c17, c18, c19, c20, c21, c22, c23, c24, c25, c26, c27, c28, c29, c30, c31, c32, c33, c34, c35, c36, c37, c38, c39, c40, c41, c42, c43, c44, c45, c46, c47, c48, c49, c50, c51, c52, c53, c54, c55, c56, c57, c58, c59, c60, c61, c62, c63, c64, c65, c66, c67, c68, c69, c70, c71, c72, c73, c74, c75, c76, .inr (7, [.int 0, .ref 78, .ref 79, .ref 80, .ref 81, .ref 82, .ref 83, .ref 84, .ref 85, .int 99, .ref 86, .ref 87, .ref 88, .ref 89, .ref 90, .ref 91, .ref 92, .ref 93, .ref 94, .int 0, .int 0, .int 0, .int 0, .int 0, .int 0, .int 0, .int 0, .ref 95, .ref 96, .ref 97, .ref 98, .ref 99, .ref 100, .ref 101, .ref 102, .int 0, .int 0, .int 0, .long 0, .int 0, .ref 103, .ref 104, .ref 105, .ref 106, .ref 107, .ref 108, .ref 109, .ref 110, .ref 111, .ref 112, .ref 113, .ref 114, .ref 115, .ref 116, .ref 117, .ref 118, .ref 119, .ref 120, .ref 121, .ref 122, .null, .null, .null, .int 0, .int 0, .null, .null, .null, .null]), (xI 8), (xI 192), (xI 192), (xI 192), (xJ 192), (xJ 192), (xI 192), (xJ 1536), (xI 192), (xI 192), (xZ 192), (xI 192), (xI 192), (xI 12288), (xJ 12288), (xI 12288), (xI 120), (xI 24), (xI 24), (xI 24), (xJ 24), (xJ 24), (xI 24), (xJ 192), (xI 4096), (xI 192), (xI 192), (xI 192), (xI 192), (xI 12288), (xJ 12288), (xI 12288), (xJ 16), (xI 8), (xI 192), (xI 192), (xI 192), (xJ 192), (xJ 192), (xI 192), (xJ 1536), (xI 192), (xI 192), (xI 192), (xI 192), (xI 12288)]) rfl ?_
  refine wPut 414 i143_411 p143_154 rfl (by decide) rfl rfl rfl ?_
  refine tHeap (h' := [c0, c1, c2, c3, c4, c5, c6, c7, c8, c9, c10, c11, c12, c13, c14, c15, c16, c17, c18, c19, c20, c21, c22, c23, c24, c25, c26, c27, c28, c29, c30, c31, c32, c33, c34, c35, c36, c37, c38, c39, c40, c41, c42, c43, c44, c45, c46, c47, c48, c49, c50, c51, c52, c53, c54, c55, c56, c57, c58, c59, c60, c61, c62, c63, c64, c65, c66, c67, c68, c69, c70, c71, c72, c73, c74, c75, c76, .inr (7, [.int 0, .ref 78, .ref 79, .ref 80, .ref 81, .ref 82, .ref 83, .ref 84, .ref 85, .int 99, .ref 86, .ref 87, .ref 88, .ref 89, .ref 90, .ref 91, .ref 92, .ref 93, .ref 94, .int 0, .int 0, .int 0, .int 0, .int 0, .int 0, .int 0, .int 0, .ref 95, .ref 96, .ref 97, .ref 98, .ref 99, .ref 100, .ref 101, .ref 102, .int 0, .int 0, .int 0, .long 0, .int 0, .ref 103, .ref 104, .ref 105, .ref 106, .ref 107, .ref 108, .ref 109, .ref 110, .ref 111, .ref 112, .ref 113, .ref 114, .ref 115, .ref 116, .ref 117, .ref 118, .ref 119, .ref 120, .ref 121, .ref 122, .ref 123, .null, .null, .int 0, .int 0, .null, .null, .null, .null]), (xI 8), (xI 192), (xI 192), (xI 192), (xJ 192), (xJ 192), (xI 192), (xJ 1536), (xI 192), (xI 192), (xZ 192), (xI 192), (xI 192), (xI 12288), (xJ 12288), (xI 12288), (xI 120), (xI 24), (xI 24), (xI 24), (xJ 24), (xJ 24), (xI 24), (xJ 192), (xI 4096), (xI 192), (xI 192), (xI 192), (xI 192), (xI 12288), (xJ 12288), (xI 12288), (xJ 16), (xI 8), (xI 192), (xI 192), (xI 192), (xJ 192), (xJ 192), (xI 192), (xJ 1536), (xI 192), (xI 192), (xI 192), (xI 192), (xI 12288)]) rfl ?_
  refine wLan 415 i143_414 rfl rfl ?_
  refine wKs 418 12288 i143_415 (by decide) rfl ?_
  refine eNewA (n := 124) (N := 12288) (c := (xJ 12288)) 6 24748 5 12460 i143_418 (by decide) (by decide) rfl rfl rfl rfl ?_
  refine tHeap (h' := [c0, c1, c2, c3, c4, c5, c6, c7, c8, c9, c10, c11, c12, c13, c14, c15, c16, c17, c18, c19, c20, c21, c22, c23, c24, c25, c26, c27, c28, c29, c30, c31, c32, c33, c34, c35, c36, c37, c38, c39, c40, c41, c42, c43, c44, c45, c46, c47, c48, c49, c50, c51, c52, c53, c54, c55, c56, c57, c58, c59, c60, c61, c62, c63, c64, c65, c66, c67, c68, c69, c70, c71, c72, c73, c74, c75, c76, .inr (7, [.int 0, .ref 78, .ref 79, .ref 80, .ref 81, .ref 82, .ref 83, .ref 84, .ref 85, .int 99, .ref 86, .ref 87, .ref 88, .ref 89, .ref 90, .ref 91, .ref 92, .ref 93, .ref 94, .int 0, .int 0, .int 0, .int 0, .int 0, .int 0, .int 0, .int 0, .ref 95, .ref 96, .ref 97, .ref 98, .ref 99, .ref 100, .ref 101, .ref 102, .int 0, .int 0, .int 0, .long 0, .int 0, .ref 103, .ref 104, .ref 105, .ref 106, .ref 107, .ref 108, .ref 109, .ref 110, .ref 111, .ref 112, .ref 113, .ref 114, .ref 115, .ref 116, .ref 117, .ref 118, .ref 119, .ref 120, .ref 121, .ref 122, .ref 123, .null, .null, .int 0, .int 0, .null, .null, .null, .null]), (xI 8), (xI 192), (xI 192), (xI 192), (xJ 192), (xJ 192), (xI 192), (xJ 1536), (xI 192), (xI 192), (xZ 192), (xI 192), (xI 192), (xI 12288), (xJ 12288), (xI 12288), (xI 120), (xI 24), (xI 24), (xI 24), (xJ 24), (xJ 24), (xI 24), (xJ 192), (xI 4096), (xI 192), (xI 192), (xI 192), (xI 192), (xI 12288), (xJ 12288), (xI 12288), (xJ 16), (xI 8), (xI 192), (xI 192), (xI 192), (xJ 192), (xJ 192), (xI 192), (xJ 1536), (xI 192), (xI 192), (xI 192), (xI 192), (xI 12288), (xJ 12288)]) rfl ?_
  refine wPut 423 i143_420 p143_157 rfl (by decide) rfl rfl rfl ?_
  refine tHeap (h' := [c0, c1, c2, c3, c4, c5, c6, c7, c8, c9, c10, c11, c12, c13, c14, c15, c16, c17, c18, c19, c20, c21, c22, c23, c24, c25, c26, c27, c28, c29, c30, c31, c32, c33, c34, c35, c36, c37, c38, c39, c40, c41, c42, c43, c44, c45, c46, c47, c48, c49, c50, c51, c52, c53, c54, c55, c56, c57, c58, c59, c60, c61, c62, c63, c64, c65, c66, c67, c68, c69, c70, c71, c72, c73, c74, c75, c76, .inr (7, [.int 0, .ref 78, .ref 79, .ref 80, .ref 81, .ref 82, .ref 83, .ref 84, .ref 85, .int 99, .ref 86, .ref 87, .ref 88, .ref 89, .ref 90, .ref 91, .ref 92, .ref 93, .ref 94, .int 0, .int 0, .int 0, .int 0, .int 0, .int 0, .int 0, .int 0, .ref 95, .ref 96, .ref 97, .ref 98, .ref 99, .ref 100, .ref 101, .ref 102, .int 0, .int 0, .int 0, .long 0, .int 0, .ref 103, .ref 104, .ref 105, .ref 106, .ref 107, .ref 108, .ref 109, .ref 110, .ref 111, .ref 112, .ref 113, .ref 114, .ref 115, .ref 116, .ref 117, .ref 118, .ref 119, .ref 120, .ref 121, .ref 122, .ref 123, .ref 124, .null, .int 0, .int 0, .null, .null, .null, .null]), (xI 8), (xI 192), (xI 192), (xI 192), (xJ 192), (xJ 192), (xI 192), (xJ 1536), (xI 192), (xI 192), (xZ 192), (xI 192), (xI 192), (xI 12288), (xJ 12288), (xI 12288), (xI 120), (xI 24), (xI 24), (xI 24), (xJ 24), (xJ 24), (xI 24), (xJ 192), (xI 4096), (xI 192), (xI 192), (xI 192), (xI 192), (xI 12288), (xJ 12288), (xI 12288), (xJ 16), (xI 8), (xI 192), (xI 192), (xI 192), (xJ 192), (xJ 192), (xI 192), (xJ 1536), (xI 192), (xI 192), (xI 192), (xI 192), (xI 12288), (xJ 12288)]) rfl ?_
  refine wLan 424 i143_423 rfl rfl ?_
  refine wKs 427 12288 i143_424 (by decide) rfl ?_
  refine eNewA (n := 125) (N := 12288) (c := (xI 12288)) 5 12460 4 172 i143_427 (by decide) (by decide) rfl rfl rfl rfl ?_
  refine tHeap (h' := [c0, c1, c2, c3, c4, c5, c6, c7, c8, c9, c10, c11, c12, c13, c14, c15, c16, c17, c18, c19, c20, c21, c22, c23, c24, c25, c26, c27, c28, c29, c30, c31, c32, c33, c34, c35, c36, c37, c38, c39, c40, c41, c42, c43, c44, c45, c46, c47, c48, c49, c50, c51, c52, c53, c54, c55, c56, c57, c58, c59, c60, c61, c62, c63, c64, c65, c66, c67, c68, c69, c70, c71, c72, c73, c74, c75, c76, .inr (7, [.int 0, .ref 78, .ref 79, .ref 80, .ref 81, .ref 82, .ref 83, .ref 84, .ref 85, .int 99, .ref 86, .ref 87, .ref 88, .ref 89, .ref 90, .ref 91, .ref 92, .ref 93, .ref 94, .int 0, .int 0, .int 0, .int 0, .int 0, .int 0, .int 0, .int 0, .ref 95, .ref 96, .ref 97, .ref 98, .ref 99, .ref 100, .ref 101, .ref 102, .int 0, .int 0, .int 0, .long 0, .int 0, .ref 103, .ref 104, .ref 105, .ref 106, .ref 107, .ref 108, .ref 109, .ref 110, .ref 111, .ref 112, .ref 113, .ref 114, .ref 115, .ref 116, .ref 117, .ref 118, .ref 119, .ref 120, .ref 121, .ref 122, .ref 123, .ref 124, .null, .int 0, .int 0, .null, .null, .null, .null]), (xI 8), (xI 192), (xI 192), (xI 192), (xJ 192), (xJ 192), (xI 192), (xJ 1536), (xI 192), (xI 192), (xZ 192), (xI 192), (xI 192), (xI 12288), (xJ 12288), (xI 12288), (xI 120), (xI 24), (xI 24), (xI 24), (xJ 24), (xJ 24), (xI 24), (xJ 192), (xI 4096), (xI 192), (xI 192), (xI 192), (xI 192), (xI 12288), (xJ 12288), (xI 12288), (xJ 16), (xI 8), (xI 192), (xI 192), (xI 192), (xJ 192), (xJ 192), (xI 192), (xJ 1536), (xI 192), (xI 192), (xI 192), (xI 192), (xI 12288), (xJ 12288), (xI 12288)]) rfl ?_
  refine wPut 432 i143_429 p143_160 rfl (by decide) rfl rfl rfl ?_
  refine tHeap (h' := [c0, c1, c2, c3, c4, c5, c6, c7, c8, c9, c10, c11, c12, c13, c14, c15, c16, c17, c18, c19, c20, c21, c22, c23, c24, c25, c26, c27, c28, c29, c30, c31, c32, c33, c34, c35, c36, c37, c38, c39, c40, c41, c42, c43, c44, c45, c46, c47, c48, c49, c50, c51, c52, c53, c54, c55, c56, c57, c58, c59, c60, c61, c62, c63, c64, c65, c66, c67, c68, c69, c70, c71, c72, c73, c74, c75, c76, .inr (7, [.int 0, .ref 78, .ref 79, .ref 80, .ref 81, .ref 82, .ref 83, .ref 84, .ref 85, .int 99, .ref 86, .ref 87, .ref 88, .ref 89, .ref 90, .ref 91, .ref 92, .ref 93, .ref 94, .int 0, .int 0, .int 0, .int 0, .int 0, .int 0, .int 0, .int 0, .ref 95, .ref 96, .ref 97, .ref 98, .ref 99, .ref 100, .ref 101, .ref 102, .int 0, .int 0, .int 0, .long 0, .int 0, .ref 103, .ref 104, .ref 105, .ref 106, .ref 107, .ref 108, .ref 109, .ref 110, .ref 111, .ref 112, .ref 113, .ref 114, .ref 115, .ref 116, .ref 117, .ref 118, .ref 119, .ref 120, .ref 121, .ref 122, .ref 123, .ref 124, .ref 125, .int 0, .int 0, .null, .null, .null, .null]), (xI 8), (xI 192), (xI 192), (xI 192), (xJ 192), (xJ 192), (xI 192), (xJ 1536), (xI 192), (xI 192), (xZ 192), (xI 192), (xI 192), (xI 12288), (xJ 12288), (xI 12288), (xI 120), (xI 24), (xI 24), (xI 24), (xJ 24), (xJ 24), (xI 24), (xJ 192), (xI 4096), (xI 192), (xI 192), (xI 192), (xI 192), (xI 12288), (xJ 12288), (xI 12288), (xJ 16), (xI 8), (xI 192), (xI 192), (xI 192), (xJ 192), (xJ 192), (xI 192), (xJ 1536), (xI 192), (xI 192), (xI 192), (xI 192), (xI 12288), (xJ 12288), (xI 12288)]) rfl ?_
  refine wLan 433 i143_432 rfl rfl ?_
  refine wK 434 4 i143_433 (by decide) rfl ?_
  refine eNewA (n := 126) (N := 4) (c := (xZ 4)) 4 172 3 168 i143_434 (by decide) (by decide) rfl rfl rfl rfl ?_
  refine tHeap (h' := [c0, c1, c2, c3, c4, c5, c6, c7, c8, c9, c10, c11, c12, c13, c14, c15, c16, c17, c18, c19, c20, c21, c22, c23, c24, c25, c26, c27, c28, c29, c30, c31, c32, c33, c34, c35, c36, c37, c38, c39, c40, c41, c42, c43, c44, c45, c46, c47, c48, c49, c50, c51, c52, c53, c54, c55, c56, c57, c58, c59, c60, c61, c62, c63, c64, c65, c66, c67, c68, c69, c70, c71, c72, c73, c74, c75, c76, .inr (7, [.int 0, .ref 78, .ref 79, .ref 80, .ref 81, .ref 82, .ref 83, .ref 84, .ref 85, .int 99, .ref 86, .ref 87, .ref 88, .ref 89, .ref 90, .ref 91, .ref 92, .ref 93, .ref 94, .int 0, .int 0, .int 0, .int 0, .int 0, .int 0, .int 0, .int 0, .ref 95, .ref 96, .ref 97, .ref 98, .ref 99, .ref 100, .ref 101, .ref 102, .int 0, .int 0, .int 0, .long 0, .int 0, .ref 103, .ref 104, .ref 105, .ref 106, .ref 107, .ref 108, .ref 109, .ref 110, .ref 111, .ref 112, .ref 113, .ref 114, .ref 115, .ref 116, .ref 117, .ref 118, .ref 119, .ref 120, .ref 121, .ref 122, .ref 123, .ref 124, .ref 125, .int 0, .int 0, .null, .null, .null, .null]), (xI 8), (xI 192), (xI 192), (xI 192), (xJ 192), (xJ 192), (xI 192), (xJ 1536), (xI 192), (xI 192), (xZ 192), (xI 192), (xI 192), (xI 12288), (xJ 12288), (xI 12288), (xI 120), (xI 24), (xI 24), (xI 24), (xJ 24), (xJ 24), (xI 24), (xJ 192), (xI 4096), (xI 192), (xI 192), (xI 192), (xI 192), (xI 12288), (xJ 12288), (xI 12288), (xJ 16), (xI 8), (xI 192), (xI 192), (xI 192), (xJ 192), (xJ 192), (xI 192), (xJ 1536), (xI 192), (xI 192), (xI 192), (xI 192), (xI 12288), (xJ 12288), (xI 12288), (xZ 4)]) rfl ?_
  refine wPut 439 i143_436 p143_163 rfl (by decide) rfl rfl rfl ?_
  refine tHeap (h' := [c0, c1, c2, c3, c4, c5, c6, c7, c8, c9, c10, c11, c12, c13, c14, c15, c16, c17, c18, c19, c20, c21, c22, c23, c24, c25, c26, c27, c28, c29, c30, c31, c32, c33, c34, c35, c36, c37, c38, c39, c40, c41, c42, c43, c44, c45, c46, c47, c48, c49, c50, c51, c52, c53, c54, c55, c56, c57, c58, c59, c60, c61, c62, c63, c64, c65, c66, c67, c68, c69, c70, c71, c72, c73, c74, c75, c76, .inr (7, [.int 0, .ref 78, .ref 79, .ref 80, .ref 81, .ref 82, .ref 83, .ref 84, .ref 85, .int 99, .ref 86, .ref 87, .ref 88, .ref 89, .ref 90, .ref 91, .ref 92, .ref 93, .ref 94, .int 0, .int 0, .int 0, .int 0, .int 0, .int 0, .int 0, .int 0, .ref 95, .ref 96, .ref 97, .ref 98, .ref 99, .ref 100, .ref 101, .ref 102, .int 0, .int 0, .int 0, .long 0, .int 0, .ref 103, .ref 104, .ref 105, .ref 106, .ref 107, .ref 108, .ref 109, .ref 110, .ref 111, .ref 112, .ref 113, .ref 114, .ref 115, .ref 116, .ref 117, .ref 118, .ref 119, .ref 120, .ref 121, .ref 122, .ref 123, .ref 124, .ref 125, .int 0, .int 0, .ref 126, .null, .null, .null]), (xI 8), (xI 192), (xI 192), (xI 192), (xJ 192), (xJ 192), (xI 192), (xJ 1536), (xI 192), (xI 192), (xZ 192), (xI 192), (xI 192), (xI 12288), (xJ 12288), (xI 12288), (xI 120), (xI 24), (xI 24), (xI 24), (xJ 24), (xJ 24), (xI 24), (xJ 192), (xI 4096), (xI 192), (xI 192), (xI 192), (xI 192), (xI 12288), (xJ 12288), (xI 12288), (xJ 16), (xI 8), (xI 192), (xI 192), (xI 192), (xJ 192), (xJ 192), (xI 192), (xJ 1536), (xI 192), (xI 192), (xI 192), (xI 192), (xI 12288), (xJ 12288), (xI 12288), (xZ 4)]) rfl ?_
  refine wLan 440 i143_439 rfl rfl ?_
  refine wK 441 4 i143_440 (by decide) rfl ?_
  refine eNewA (n := 127) (N := 4) (c := (xI 4)) 3 168 2 164 i143_441 (by decide) (by decide) rfl rfl rfl rfl ?_
  refine tHeap (h' := [c0, c1, c2, c3, c4, c5, c6, c7, c8, c9, c10, c11, c12, c13, c14, c15, c16, c17, c18, c19, c20, c21, c22, c23, c24, c25, c26, c27, c28, c29, c30, c31, c32, c33, c34, c35, c36, c37, c38, c39, c40, c41, c42, c43, c44, c45, c46, c47, c48, c49, c50, c51, c52, c53, c54, c55, c56, c57, c58, c59, c60, c61, c62, c63, c64, c65, c66, c67, c68, c69, c70, c71, c72, c73, c74, c75, c76, .inr (7, [.int 0, .ref 78, .ref 79, .ref 80, .ref 81, .ref 82, .ref 83, .ref 84, .ref 85, .int 99, .ref 86, .ref 87, .ref 88, .ref 89, .ref 90, .ref 91, .ref 92, .ref 93, .ref 94, .int 0, .int 0, .int 0, .int 0, .int 0, .int 0, .int 0, .int 0, .ref 95, .ref 96, .ref 97, .ref 98, .ref 99, .ref 100, .ref 101, .ref 102, .int 0, .int 0, .int 0, .long 0, .int 0, .ref 103, .ref 104, .ref 105, .ref 106, .ref 107, .ref 108, .ref 109, .ref 110, .ref 111, .ref 112, .ref 113, .ref 114, .ref 115, .ref 116, .ref 117, .ref 118, .ref 119, .ref 120, .ref 121, .ref 122, .ref 123, .ref 124, .ref 125, .int 0, .int 0, .ref 126, .null, .null, .null]), (xI 8), (xI 192), (xI 192), (xI 192), (xJ 192), (xJ 192), (xI 192), (xJ 1536), (xI 192), (xI 192), (xZ 192), (xI 192), (xI 192), (xI 12288), (xJ 12288), (xI 12288), (xI 120), (xI 24), (xI 24), (xI 24), (xJ 24), (xJ 24), (xI 24), (xJ 192), (xI 4096), (xI 192), (xI 192), (xI 192), (xI 192), (xI 12288), (xJ 12288), (xI 12288), (xJ 16), (xI 8), (xI 192), (xI 192), (xI 192), (xJ 192), (xJ 192), (xI 192), (xJ 1536), (xI 192), (xI 192), (xI 192), (xI 192), (xI 12288), (xJ 12288), (xI 12288), (xZ 4), (xI 4)]) rfl ?_
  refine wPut 446 i143_443 p143_166 rfl (by decide) rfl rfl rfl ?_
  refine tHeap (h' := [c0, c1, c2, c3, c4, c5, c6, c7, c8, c9, c10, c11, c12, c13, c14, c15, c16, c17, c18, c19, c20, c21, c22, c23, c24, c25, c26, c27, c28, c29, c30, c31, c32, c33, c34, c35, c36, c37, c38, c39, c40, c41, c42, c43, c44, c45, c46, c47, c48, c49, c50, c51, c52, c53, c54, c55, c56, c57, c58, c59, c60, c61, c62, c63, c64, c65, c66, c67, c68, c69, c70, c71, c72, c73, c74, c75, c76, .inr (7, [.int 0, .ref 78, .ref 79, .ref 80, .ref 81, .ref 82, .ref 83, .ref 84, .ref 85, .int 99, .ref 86, .ref 87, .ref 88, .ref 89, .ref 90, .ref 91, .ref 92, .ref 93, .ref 94, .int 0, .int 0, .int 0, .int 0, .int 0, .int 0, .int 0, .int 0, .ref 95, .ref 96, .ref 97, .ref 98, .ref 99, .ref 100, .ref 101, .ref 102, .int 0, .int 0, .int 0, .long 0, .int 0, .ref 103, .ref 104, .ref 105, .ref 106, .ref 107, .ref 108, .ref 109, .ref 110, .ref 111, .ref 112, .ref 113, .ref 114, .ref 115, .ref 116, .ref 117, .ref 118, .ref 119, .ref 120, .ref 121, .ref 122, .ref 123, .ref 124, .ref 125, .int 0, .int 0, .ref 126, .ref 127, .null, .null]), (xI 8), (xI 192), (xI 192), (xI 192), (xJ 192), (xJ 192), (xI 192), (xJ 1536), (xI 192), (xI 192), (xZ 192), (xI 192), (xI 192), (xI 12288), (xJ 12288), (xI 12288), (xI 120), (xI 24), (xI 24), (xI 24), (xJ 24), (xJ 24), (xI 24), (xJ 192), (xI 4096), (xI 192), (xI 192), (xI 192), (xI 192), (xI 12288), (xJ 12288), (xI 12288), (xJ 16), (xI 8), (xI 192), (xI 192), (xI 192), (xJ 192), (xJ 192), (xI 192), (xJ 1536), (xI 192), (xI 192), (xI 192), (xI 192), (xI 12288), (xJ 12288), (xI 12288), (xZ 4), (xI 4)]) rfl ?_
  refine wLan 447 i143_446 rfl rfl ?_
  refine wK 448 4 i143_447 (by decide) rfl ?_
  refine eNewA (n := 128) (N := 4) (c := (xI 4)) 2 164 1 160 i143_448 (by decide) (by decide) rfl rfl rfl rfl ?_
  refine tHeap (h' := [c0, c1, c2, c3, c4, c5, c6, c7, c8, c9, c10, c11, c12, c13, c14, c15, c16, c17, c18, c19, c20, c21, c22, c23, c24, c25, c26, c27, c28, c29, c30, c31, c32, c33, c34, c35, c36, c37, c38, c39, c40, c41, c42, c43, c44, c45, c46, c47, c48, c49, c50, c51, c52, c53, c54, c55, c56, c57, c58, c59, c60, c61, c62, c63, c64, c65, c66, c67, c68, c69, c70, c71, c72, c73, c74, c75, c76, .inr (7, [.int 0, .ref 78, .ref 79, .ref 80, .ref 81, .ref 82, .ref 83, .ref 84, .ref 85, .int 99, .ref 86, .ref 87, .ref 88, .ref 89, .ref 90, .ref 91, .ref 92, .ref 93, .ref 94, .int 0, .int 0, .int 0, .int 0, .int 0, .int 0, .int 0, .int 0, .ref 95, .ref 96, .ref 97, .ref 98, .ref 99, .ref 100, .ref 101, .ref 102, .int 0, .int 0, .int 0, .long 0, .int 0, .ref 103, .ref 104, .ref 105, .ref 106, .ref 107, .ref 108, .ref 109, .ref 110, .ref 111, .ref 112, .ref 113, .ref 114, .ref 115, .ref 116, .ref 117, .ref 118, .ref 119, .ref 120, .ref 121, .ref 122, .ref 123, .ref 124, .ref 125, .int 0, .int 0, .ref 126, .ref 127, .null, .null]), (xI 8), (xI 192), (xI 192), (xI 192), (xJ 192), (xJ 192), (xI 192), (xJ 1536), (xI 192), (xI 192), (xZ 192), (xI 192), (xI 192), (xI 12288), (xJ 12288), (xI 12288), (xI 120), (xI 24), (xI 24), (xI 24), (xJ 24), (xJ 24), (xI 24), (xJ 192), (xI 4096), (xI 192), (xI 192), (xI 192), (xI 192), (xI 12288), (xJ 12288), (xI 12288), (xJ 16), (xI 8), (xI 192), (xI 192), (xI 192), (xJ 192), (xJ 192), (xI 192), (xJ 1536), (xI 192), (xI 192), (xI 192), (xI 192), (xI 12288), (xJ 12288), (xI 12288), (xZ 4), (xI 4), (xI 4)]) rfl ?_
  refine wPut 453 i143_450 p143_169 rfl (by decide) rfl rfl rfl ?_
  refine tHeap (h' := [c0, c1, c2, c3, c4, c5, c6, c7, c8, c9, c10, c11, c12, c13, c14, c15, c16, c17, c18, c19, c20, c21, c22, c23, c24, c25, c26, c27, c28, c29, c30, c31, c32, c33, c34, c35, c36, c37, c38, c39, c40, c41, c42, c43, c44, c45, c46, c47, c48, c49, c50, c51, c52, c53, c54, c55, c56, c57, c58, c59, c60, c61, c62, c63, c64, c65, c66, c67, c68, c69, c70, c71, c72, c73, c74, c75, c76, .inr (7, [.int 0, .ref 78, .ref 79, .ref 80, .ref 81, .ref 82, .ref 83, .ref 84, .ref 85, .int 99, .ref 86, .ref 87, .ref 88, .ref 89, .ref 90, .ref 91, .ref 92, .ref 93, .ref 94, .int 0, .int 0, .int 0, .int 0, .int 0, .int 0, .int 0, .int 0, .ref 95, .ref 96, .ref 97, .ref 98, .ref 99, .ref 100, .ref 101, .ref 102, .int 0, .int 0, .int 0, .long 0, .int 0, .ref 103, .ref 104, .ref 105, .ref 106, .ref 107, .ref 108, .ref 109, .ref 110, .ref 111, .ref 112, .ref 113, .ref 114, .ref 115, .ref 116, .ref 117, .ref 118, .ref 119, .ref 120, .ref 121, .ref 122, .ref 123, .ref 124, .ref 125, .int 0, .int 0, .ref 126, .ref 127, .ref 128, .null]), (xI 8), (xI 192), (xI 192), (xI 192), (xJ 192), (xJ 192), (xI 192), (xJ 1536), (xI 192), (xI 192), (xZ 192), (xI 192), (xI 192), (xI 12288), (xJ 12288), (xI 12288), (xI 120), (xI 24), (xI 24), (xI 24), (xJ 24), (xJ 24), (xI 24), (xJ 192), (xI 4096), (xI 192), (xI 192), (xI 192), (xI 192), (xI 12288), (xJ 12288), (xI 12288), (xJ 16), (xI 8), (xI 192), (xI 192), (xI 192), (xJ 192), (xJ 192), (xI 192), (xJ 1536), (xI 192), (xI 192), (xI 192), (xI 192), (xI 12288), (xJ 12288), (xI 12288), (xZ 4), (xI 4), (xI 4)]) rfl ?_
  refine wLan 454 i143_453 rfl rfl ?_
  refine wKs 457 160 i143_454 (by decide) rfl ?_
  refine eNewA (n := 129) (N := 160) (c := (xJ 160)) 1 160 0 0 i143_457 (by decide) (by decide) rfl rfl rfl rfl ?_
  refine tHeap (h' := [c0, c1, c2, c3, c4, c5, c6, c7, c8, c9, c10, c11, c12, c13, c14, c15, c16, c17, c18, c19, c20, c21, c22, c23, c24, c25, c26, c27, c28, c29, c30, c31, c32, c33, c34, c35, c36, c37, c38, c39, c40, c41, c42, c43, c44, c45, c46, c47, c48, c49, c50, c51, c52, c53, c54, c55, c56, c57, c58, c59, c60, c61, c62, c63, c64, c65, c66, c67, c68, c69, c70, c71, c72, c73, c74, c75, c76, .inr (7, [.int 0, .ref 78, .ref 79, .ref 80, .ref 81, .ref 82, .ref 83, .ref 84, .ref 85, .int 99, .ref 86, .ref 87, .ref 88, .ref 89, .ref 90, .ref 91, .ref 92, .ref 93, .ref 94, .int 0, .int 0, .int 0, .int 0, .int 0, .int 0, .int 0, .int 0, .ref 95, .ref 96, .ref 97, .ref 98, .ref 99, .ref 100, .ref 101, .ref 102, .int 0, .int 0, .int 0, .long 0, .int 0, .ref 103, .ref 104, .ref 105, .ref 106, .ref 107, .ref 108, .ref 109, .ref 110, .ref 111, .ref 112, .ref 113, .ref 114, .ref 115, .ref 116, .ref 117, .ref 118, .ref 119, .ref 120, .ref 121, .ref 122, .ref 123, .ref 124, .ref 125, .int 0, .int 0, .ref 126, .ref 127, .ref 128, .null]), (xI 8), (xI 192), (xI 192), (xI 192), (xJ 192), (xJ 192), (xI 192), (xJ 1536), (xI 192), (xI 192), (xZ 192), (xI 192), (xI 192), (xI 12288), (xJ 12288), (xI 12288), (xI 120), (xI 24), (xI 24), (xI 24), (xJ 24), (xJ 24), (xI 24), (xJ 192), (xI 4096), (xI 192), (xI 192), (xI 192), (xI 192), (xI 12288), (xJ 12288), (xI 12288), (xJ 16), (xI 8), (xI 192), (xI 192), (xI 192), (xJ 192), (xJ 192), (xI 192), (xJ 1536), (xI 192), (xI 192), (xI 192), (xI 192), (xI 12288), (xJ 12288), (xI 12288), (xZ 4), (xI 4), (xI 4), (xJ 160)]) rfl ?_
  refine wPut 462 i143_459 p143_172 rfl (by decide) rfl rfl rfl ?_
  refine tHeap (h' := [c0, c1, c2, c3, c4, c5, c6, c7, c8, c9, c10, c11, c12, c13, c14, c15, c16, c17, c18, c19, c20, c21, c22, c23, c24, c25, c26, c27, c28, c29, c30, c31, c32, c33, c34, c35, c36, c37, c38, c39, c40, c41, c42, c43, c44, c45, c46, c47, c48, c49, c50, c51, c52, c53, c54, c55, c56, c57, c58, c59, c60, c61, c62, c63, c64, c65, c66, c67, c68, c69, c70, c71, c72, c73, c74, c75, c76, .inr (7, [.int 0, .ref 78, .ref 79, .ref 80, .ref 81, .ref 82, .ref 83, .ref 84, .ref 85, .int 99, .ref 86, .ref 87, .ref 88, .ref 89, .ref 90, .ref 91, .ref 92, .ref 93, .ref 94, .int 0, .int 0, .int 0, .int 0, .int 0, .int 0, .int 0, .int 0, .ref 95, .ref 96, .ref 97, .ref 98, .ref 99, .ref 100, .ref 101, .ref 102, .int 0, .int 0, .int 0, .long 0, .int 0, .ref 103, .ref 104, .ref 105, .ref 106, .ref 107, .ref 108, .ref 109, .ref 110, .ref 111, .ref 112, .ref 113, .ref 114, .ref 115, .ref 116, .ref 117, .ref 118, .ref 119, .ref 120, .ref 121, .ref 122, .ref 123, .ref 124, .ref 125, .int 0, .int 0, .ref 126, .ref 127, .ref 128, .ref 129]), (xI 8), (xI 192), (xI 192), (xI 192), (xJ 192), (xJ 192), (xI 192), (xJ 1536), (xI 192), (xI 192), (xZ 192), (xI 192), (xI 192), (xI 12288), (xJ 12288), (xI 12288), (xI 120), (xI 24), (xI 24), (xI 24), (xJ 24), (xJ 24), (xI 24), (xJ 192), (xI 4096), (xI 192), (xI 192), (xI 192), (xI 192), (xI 12288), (xJ 12288), (xI 12288), (xJ 16), (xI 8), (xI 192), (xI 192), (xI 192), (xJ 192), (xJ 192), (xI 192), (xJ 1536), (xI 192), (xI 192), (xI 192), (xI 192), (xI 12288), (xJ 12288), (xI 12288), (xZ 4), (xI 4), (xI 4), (xJ 160)]) rfl ?_
  refine wR0 i143_462 m143 ?_
  exact rfl
end
section
theorem cg2 {α : Type} {a b : α} {l m : List α} (h1 : a = b) (h2 : l = m) : a :: l = b :: m := by rw [h1, h2]
/-- the table behind both constructors -/
def s0 : St := fun a k => match a with
  | 29 => if k < 192 then 1 else 0
  | 41 => if k < 192 then 1 else 0
  | 68 => if k < 192 then 1 else 0
  | 52 => if k < 4 then -1 else 0
  | 0 => if k = 10 ∨ k = 12 then 99 else 0
  | 1 => if k = 7 then -1 else 0
  | 50 => if k = 1 then 26 else 0
  | 77 => if k = 9 then 99 else 0
  | _ => 0
theorem xOne_c : xOne = fun k => Int32.ofInt (if k < 192 then 1 else 0) := by
  funext k
  unfold xOne
  split <;> rfl
theorem hc_0 : (.inr (6, [.ref 1, .ref 15, .ref 17, .ref 26, .ref 38, .ref 50, .ref 51, .ref 55, .ref 56, .ref 65, .int 99, .int 0, .int 99, .int 0]) : xE) = cel s0 0 (.inr (6, [.inr 1, .inr 15, .inr 17, .inr 26, .inr 38, .inr 50, .inr 51, .inr 55, .inr 56, .inr 65, .inl 0, .inl 0, .inl 0, .inl 0])) := rfl
theorem hc_1 : (.inr (1, [.ref 2, .int 0, .ref 11, .ref 12, .ref 13, .ref 14, .int 0, .int (-1)]) : xE) = cel s0 1 (.inr (1, [.inr 2, .inl 0, .inr 11, .inr 12, .inr 13, .inr 14, .inl 0, .inl 0])) := rfl
theorem hc_2 : (.inr (4, [.ref 3, .ref 4, .ref 5, .ref 6, .ref 7, .ref 8, .ref 9, .ref 10]) : xE) = cel s0 2 (.inr (4, [.inr 3, .inr 4, .inr 5, .inr 6, .inr 7, .inr 8, .inr 9, .inr 10])) := rfl
theorem hc_3 : ((xI 1) : xE) = cel s0 3 (.inl (0, 1)) := rfl
theorem hc_4 : ((xI 24) : xE) = cel s0 4 (.inl (0, 24)) := rfl
theorem hc_5 : ((xI 24) : xE) = cel s0 5 (.inl (0, 24)) := rfl
theorem hc_6 : ((xI 24) : xE) = cel s0 6 (.inl (0, 24)) := rfl
theorem hc_7 : ((xI 24) : xE) = cel s0 7 (.inl (0, 24)) := rfl
theorem hc_8 : ((xI 24) : xE) = cel s0 8 (.inl (0, 24)) := rfl
theorem hc_9 : ((xI 24) : xE) = cel s0 9 (.inl (0, 24)) := rfl
theorem hc_10 : ((xJ 192) : xE) = cel s0 10 (.inl (1, 192)) := rfl
theorem hc_11 : ((xI 120) : xE) = cel s0 11 (.inl (0, 120)) := rfl
theorem hc_12 : ((xI 121) : xE) = cel s0 12 (.inl (0, 121)) := rfl
theorem hc_13 : ((xI 121) : xE) = cel s0 13 (.inl (0, 121)) := rfl
theorem hc_14 : ((xI 121) : xE) = cel s0 14 (.inl (0, 121)) := rfl
theorem hc_15 : (.inr (0, [.ref 16, .int 0]) : xE) = cel s0 15 (.inr (0, [.inr 16, .inl 0])) := rfl
theorem hc_16 : ((xI 1024) : xE) = cel s0 16 (.inl (0, 1024)) := rfl
theorem hc_17 : (.inr (4, [.ref 18, .ref 19, .ref 20, .ref 21, .ref 22, .ref 23, .ref 24, .ref 25]) : xE) = cel s0 17 (.inr (4, [.inr 18, .inr 19, .inr 20, .inr 21, .inr 22, .inr 23, .inr 24, .inr 25])) := rfl
theorem hc_18 : ((xI 8) : xE) = cel s0 18 (.inl (0, 8)) := rfl
theorem hc_19 : ((xI 192) : xE) = cel s0 19 (.inl (0, 192)) := rfl
theorem hc_20 : ((xI 192) : xE) = cel s0 20 (.inl (0, 192)) := rfl
theorem hc_21 : ((xI 192) : xE) = cel s0 21 (.inl (0, 192)) := rfl
theorem hc_22 : ((xI 192) : xE) = cel s0 22 (.inl (0, 192)) := rfl
theorem hc_23 : ((xI 192) : xE) = cel s0 23 (.inl (0, 192)) := rfl
theorem hc_24 : ((xI 192) : xE) = cel s0 24 (.inl (0, 192)) := rfl
theorem hc_25 : ((xJ 1536) : xE) = cel s0 25 (.inl (1, 1536)) := rfl
theorem hc_26 : (.inr (5, [.ref 27, .ref 28, .ref 29, .ref 30, .ref 31, .ref 32, .ref 33, .ref 34, .ref 35, .ref 36, .ref 37, .int 0]) : xE) = cel s0 26 (.inr (5, [.inr 27, .inr 28, .inr 29, .inr 30, .inr 31, .inr 32, .inr 33, .inr 34, .inr 35, .inr 36, .inr 37, .inl 0])) := rfl
theorem hc_27 : ((xI 192) : xE) = cel s0 27 (.inl (0, 192)) := rfl
theorem hc_28 : ((xI 192) : xE) = cel s0 28 (.inl (0, 192)) := rfl
theorem hc_29 : (.inl (.int, 192, .inl xOne) : xE) = cel s0 29 (.inl (0, 192)) := by
  show (Sum.inl (.int, 192, .inl xOne) : xE) = Sum.inl (.int, 192, .inl (fun k => Int32.ofInt (if k < 192 then 1 else 0)))
  rw [xOne_c]
theorem hc_30 : ((xZ 192) : xE) = cel s0 30 (.inl (3, 192)) := rfl
theorem hc_31 : ((xI 192) : xE) = cel s0 31 (.inl (0, 192)) := rfl
theorem hc_32 : ((xI 192) : xE) = cel s0 32 (.inl (0, 192)) := rfl
theorem hc_33 : ((xB 12288) : xE) = cel s0 33 (.inl (2, 12288)) := rfl
theorem hc_34 : ((xJ 12288) : xE) = cel s0 34 (.inl (1, 12288)) := rfl
theorem hc_35 : ((xB 12288) : xE) = cel s0 35 (.inl (2, 12288)) := rfl
theorem hc_36 : ((xZ 192) : xE) = cel s0 36 (.inl (3, 192)) := rfl
theorem hc_37 : ((xI 192) : xE) = cel s0 37 (.inl (0, 192)) := rfl
theorem hc_38 : (.inr (5, [.ref 39, .ref 40, .ref 41, .ref 42, .ref 43, .ref 44, .ref 45, .ref 46, .ref 47, .ref 48, .ref 49, .int 0]) : xE) = cel s0 38 (.inr (5, [.inr 39, .inr 40, .inr 41, .inr 42, .inr 43, .inr 44, .inr 45, .inr 46, .inr 47, .inr 48, .inr 49, .inl 0])) := rfl
theorem hc_39 : ((xI 192) : xE) = cel s0 39 (.inl (0, 192)) := rfl
theorem hc_40 : ((xI 192) : xE) = cel s0 40 (.inl (0, 192)) := rfl
theorem hc_41 : (.inl (.int, 192, .inl xOne) : xE) = cel s0 41 (.inl (0, 192)) := by
  show (Sum.inl (.int, 192, .inl xOne) : xE) = Sum.inl (.int, 192, .inl (fun k => Int32.ofInt (if k < 192 then 1 else 0)))
  rw [xOne_c]
theorem hc_42 : ((xZ 192) : xE) = cel s0 42 (.inl (3, 192)) := rfl
theorem hc_43 : ((xI 192) : xE) = cel s0 43 (.inl (0, 192)) := rfl
theorem hc_44 : ((xI 192) : xE) = cel s0 44 (.inl (0, 192)) := rfl
theorem hc_45 : ((xB 12288) : xE) = cel s0 45 (.inl (2, 12288)) := rfl
theorem hc_46 : ((xJ 12288) : xE) = cel s0 46 (.inl (1, 12288)) := rfl
theorem hc_47 : ((xB 12288) : xE) = cel s0 47 (.inl (2, 12288)) := rfl
theorem hc_48 : ((xZ 192) : xE) = cel s0 48 (.inl (3, 192)) := rfl
theorem hc_49 : ((xI 192) : xE) = cel s0 49 (.inl (0, 192)) := rfl
theorem hc_50 : (.inr (3, [.ref 17, .ref 26, .int 0, .int 0, .long 0]) : xE) = cel s0 50 (.inr (3, [.inr 17, .inl 2, .inl 0, .inl 0, .inl 1])) := rfl
theorem hc_51 : (.inr (2, [.ref 52, .ref 53, .ref 54]) : xE) = cel s0 51 (.inr (2, [.inr 52, .inr 53, .inr 54])) := rfl
theorem s52_c : (upd (upd (upd (upd (fun _ => 0) 0 (-1)) 1 (-1)) 2 (-1)) 3 (-1)) = fun k => Int32.ofInt (if k < 4 then -1 else 0) := by
  funext k
  match k with
  | 0 => rfl
  | 1 => rfl
  | 2 => rfl
  | 3 => rfl
  | k + 4 => 
    rw [if_neg (by omega)]
    rfl
theorem hc_52 : (.inl (.int, 4, .inl (upd (upd (upd (upd (fun _ => 0) 0 (-1)) 1 (-1)) 2 (-1)) 3 (-1))) : xE) = cel s0 52 (.inl (0, 4)) := by
  show (Sum.inl (.int, 4, .inl (upd (upd (upd (upd (fun _ => 0) 0 (-1)) 1 (-1)) 2 (-1)) 3 (-1))) : xE) = Sum.inl (.int, 4, .inl (fun k => Int32.ofInt (if k < 4 then -1 else 0)))
  rw [s52_c]
theorem hc_53 : ((xI 4) : xE) = cel s0 53 (.inl (0, 4)) := rfl
theorem hc_54 : ((xJ 160) : xE) = cel s0 54 (.inl (1, 160)) := rfl
theorem hc_55 : ((xJ 16) : xE) = cel s0 55 (.inl (1, 16)) := rfl
theorem hc_56 : (.inr (4, [.ref 57, .ref 58, .ref 59, .ref 60, .ref 61, .ref 62, .ref 63, .ref 64]) : xE) = cel s0 56 (.inr (4, [.inr 57, .inr 58, .inr 59, .inr 60, .inr 61, .inr 62, .inr 63, .inr 64])) := rfl
theorem hc_57 : ((xI 8) : xE) = cel s0 57 (.inl (0, 8)) := rfl
theorem hc_58 : ((xI 192) : xE) = cel s0 58 (.inl (0, 192)) := rfl
theorem hc_59 : ((xI 192) : xE) = cel s0 59 (.inl (0, 192)) := rfl
theorem hc_60 : ((xI 192) : xE) = cel s0 60 (.inl (0, 192)) := rfl
theorem hc_61 : ((xI 192) : xE) = cel s0 61 (.inl (0, 192)) := rfl
theorem hc_62 : ((xI 192) : xE) = cel s0 62 (.inl (0, 192)) := rfl
theorem hc_63 : ((xI 192) : xE) = cel s0 63 (.inl (0, 192)) := rfl
theorem hc_64 : ((xJ 1536) : xE) = cel s0 64 (.inl (1, 1536)) := rfl
theorem hc_65 : (.inr (5, [.ref 66, .ref 67, .ref 68, .ref 69, .ref 70, .ref 71, .ref 72, .ref 73, .ref 74, .ref 75, .ref 76, .int 0]) : xE) = cel s0 65 (.inr (5, [.inr 66, .inr 67, .inr 68, .inr 69, .inr 70, .inr 71, .inr 72, .inr 73, .inr 74, .inr 75, .inr 76, .inl 0])) := rfl
theorem hc_66 : ((xI 192) : xE) = cel s0 66 (.inl (0, 192)) := rfl
theorem hc_67 : ((xI 192) : xE) = cel s0 67 (.inl (0, 192)) := rfl
theorem hc_68 : (.inl (.int, 192, .inl xOne) : xE) = cel s0 68 (.inl (0, 192)) := by
  show (Sum.inl (.int, 192, .inl xOne) : xE) = Sum.inl (.int, 192, .inl (fun k => Int32.ofInt (if k < 192 then 1 else 0)))
  rw [xOne_c]
theorem hc_69 : ((xZ 192) : xE) = cel s0 69 (.inl (3, 192)) := rfl
theorem hc_70 : ((xI 192) : xE) = cel s0 70 (.inl (0, 192)) := rfl
theorem hc_71 : ((xI 192) : xE) = cel s0 71 (.inl (0, 192)) := rfl
theorem hc_72 : ((xB 12288) : xE) = cel s0 72 (.inl (2, 12288)) := rfl
theorem hc_73 : ((xJ 12288) : xE) = cel s0 73 (.inl (1, 12288)) := rfl
theorem hc_74 : ((xB 12288) : xE) = cel s0 74 (.inl (2, 12288)) := rfl
theorem hc_75 : ((xZ 192) : xE) = cel s0 75 (.inl (3, 192)) := rfl
theorem hc_76 : ((xI 192) : xE) = cel s0 76 (.inl (0, 192)) := rfl
theorem hc_77 : (.inr (7, [.int 0, .ref 78, .ref 79, .ref 80, .ref 81, .ref 82, .ref 83, .ref 84, .ref 85, .int 99, .ref 86, .ref 87, .ref 88, .ref 89, .ref 90, .ref 91, .ref 92, .ref 93, .ref 94, .int 0, .int 0, .int 0, .int 0, .int 0, .int 0, .int 0, .int 0, .ref 95, .ref 96, .ref 97, .ref 98, .ref 99, .ref 100, .ref 101, .ref 102, .int 0, .int 0, .int 0, .long 0, .int 0, .ref 103, .ref 104, .ref 105, .ref 106, .ref 107, .ref 108, .ref 109, .ref 110, .ref 111, .ref 112, .ref 113, .ref 114, .ref 115, .ref 116, .ref 117, .ref 118, .ref 119, .ref 120, .ref 121, .ref 122, .ref 123, .ref 124, .ref 125, .int 0, .int 0, .ref 126, .ref 127, .ref 128, .ref 129]) : xE) = cel s0 77 (.inr (7, [.inl 0, .inr 78, .inr 79, .inr 80, .inr 81, .inr 82, .inr 83, .inr 84, .inr 85, .inl 0, .inr 86, .inr 87, .inr 88, .inr 89, .inr 90, .inr 91, .inr 92, .inr 93, .inr 94, .inl 0, .inl 0, .inl 0, .inl 0, .inl 0, .inl 0, .inl 0, .inl 0, .inr 95, .inr 96, .inr 97, .inr 98, .inr 99, .inr 100, .inr 101, .inr 102, .inl 0, .inl 0, .inl 0, .inl 1, .inl 0, .inr 103, .inr 104, .inr 105, .inr 106, .inr 107, .inr 108, .inr 109, .inr 110, .inr 111, .inr 112, .inr 113, .inr 114, .inr 115, .inr 116, .inr 117, .inr 118, .inr 119, .inr 120, .inr 121, .inr 122, .inr 123, .inr 124, .inr 125, .inl 0, .inl 0, .inr 126, .inr 127, .inr 128, .inr 129])) := rfl
theorem hc_78 : ((xI 8) : xE) = cel s0 78 (.inl (0, 8)) := rfl
theorem hc_79 : ((xI 192) : xE) = cel s0 79 (.inl (0, 192)) := rfl
theorem hc_80 : ((xI 192) : xE) = cel s0 80 (.inl (0, 192)) := rfl
theorem hc_81 : ((xI 192) : xE) = cel s0 81 (.inl (0, 192)) := rfl
theorem hc_82 : ((xJ 192) : xE) = cel s0 82 (.inl (1, 192)) := rfl
theorem hc_83 : ((xJ 192) : xE) = cel s0 83 (.inl (1, 192)) := rfl
theorem hc_84 : ((xI 192) : xE) = cel s0 84 (.inl (0, 192)) := rfl
theorem hc_85 : ((xJ 1536) : xE) = cel s0 85 (.inl (1, 1536)) := rfl
theorem hc_86 : ((xI 192) : xE) = cel s0 86 (.inl (0, 192)) := rfl
theorem hc_87 : ((xI 192) : xE) = cel s0 87 (.inl (0, 192)) := rfl
theorem hc_88 : ((xZ 192) : xE) = cel s0 88 (.inl (3, 192)) := rfl
theorem hc_89 : ((xI 192) : xE) = cel s0 89 (.inl (0, 192)) := rfl
theorem hc_90 : ((xI 192) : xE) = cel s0 90 (.inl (0, 192)) := rfl
theorem hc_91 : ((xI 12288) : xE) = cel s0 91 (.inl (0, 12288)) := rfl
theorem hc_92 : ((xJ 12288) : xE) = cel s0 92 (.inl (1, 12288)) := rfl
theorem hc_93 : ((xI 12288) : xE) = cel s0 93 (.inl (0, 12288)) := rfl
theorem hc_94 : ((xI 120) : xE) = cel s0 94 (.inl (0, 120)) := rfl
theorem hc_95 : ((xI 24) : xE) = cel s0 95 (.inl (0, 24)) := rfl
theorem hc_96 : ((xI 24) : xE) = cel s0 96 (.inl (0, 24)) := rfl
theorem hc_97 : ((xI 24) : xE) = cel s0 97 (.inl (0, 24)) := rfl
theorem hc_98 : ((xJ 24) : xE) = cel s0 98 (.inl (1, 24)) := rfl
theorem hc_99 : ((xJ 24) : xE) = cel s0 99 (.inl (1, 24)) := rfl
theorem hc_100 : ((xI 24) : xE) = cel s0 100 (.inl (0, 24)) := rfl
theorem hc_101 : ((xJ 192) : xE) = cel s0 101 (.inl (1, 192)) := rfl
theorem hc_102 : ((xI 4096) : xE) = cel s0 102 (.inl (0, 4096)) := rfl
theorem hc_103 : ((xI 192) : xE) = cel s0 103 (.inl (0, 192)) := rfl
theorem hc_104 : ((xI 192) : xE) = cel s0 104 (.inl (0, 192)) := rfl
theorem hc_105 : ((xI 192) : xE) = cel s0 105 (.inl (0, 192)) := rfl
theorem hc_106 : ((xI 192) : xE) = cel s0 106 (.inl (0, 192)) := rfl
theorem hc_107 : ((xI 12288) : xE) = cel s0 107 (.inl (0, 12288)) := rfl
theorem hc_108 : ((xJ 12288) : xE) = cel s0 108 (.inl (1, 12288)) := rfl
theorem hc_109 : ((xI 12288) : xE) = cel s0 109 (.inl (0, 12288)) := rfl
theorem hc_110 : ((xJ 16) : xE) = cel s0 110 (.inl (1, 16)) := rfl
theorem hc_111 : ((xI 8) : xE) = cel s0 111 (.inl (0, 8)) := rfl
theorem hc_112 : ((xI 192) : xE) = cel s0 112 (.inl (0, 192)) := rfl
theorem hc_113 : ((xI 192) : xE) = cel s0 113 (.inl (0, 192)) := rfl
theorem hc_114 : ((xI 192) : xE) = cel s0 114 (.inl (0, 192)) := rfl
theorem hc_115 : ((xJ 192) : xE) = cel s0 115 (.inl (1, 192)) := rfl
theorem hc_116 : ((xJ 192) : xE) = cel s0 116 (.inl (1, 192)) := rfl
theorem hc_117 : ((xI 192) : xE) = cel s0 117 (.inl (0, 192)) := rfl
theorem hc_118 : ((xJ 1536) : xE) = cel s0 118 (.inl (1, 1536)) := rfl
theorem hc_119 : ((xI 192) : xE) = cel s0 119 (.inl (0, 192)) := rfl
theorem hc_120 : ((xI 192) : xE) = cel s0 120 (.inl (0, 192)) := rfl
theorem hc_121 : ((xI 192) : xE) = cel s0 121 (.inl (0, 192)) := rfl
theorem hc_122 : ((xI 192) : xE) = cel s0 122 (.inl (0, 192)) := rfl
theorem hc_123 : ((xI 12288) : xE) = cel s0 123 (.inl (0, 12288)) := rfl
theorem hc_124 : ((xJ 12288) : xE) = cel s0 124 (.inl (1, 12288)) := rfl
theorem hc_125 : ((xI 12288) : xE) = cel s0 125 (.inl (0, 12288)) := rfl
theorem hc_126 : ((xZ 4) : xE) = cel s0 126 (.inl (3, 4)) := rfl
theorem hc_127 : ((xI 4) : xE) = cel s0 127 (.inl (0, 4)) := rfl
theorem hc_128 : ((xI 4) : xE) = cel s0 128 (.inl (0, 4)) := rfl
theorem hc_129 : ((xJ 160) : xE) = cel s0 129 (.inl (1, 160)) := rfl
set_option maxRecDepth 100000 in
theorem s0_heap : ([.inr (6, [.ref 1, .ref 15, .ref 17, .ref 26, .ref 38, .ref 50, .ref 51, .ref 55, .ref 56, .ref 65, .int 99, .int 0, .int 99, .int 0]), .inr (1, [.ref 2, .int 0, .ref 11, .ref 12, .ref 13, .ref 14, .int 0, .int (-1)]), .inr (4, [.ref 3, .ref 4, .ref 5, .ref 6, .ref 7, .ref 8, .ref 9, .ref 10]), (xI 1), (xI 24), (xI 24), (xI 24), (xI 24), (xI 24), (xI 24), (xJ 192), (xI 120), (xI 121), (xI 121), (xI 121), .inr (0, [.ref 16, .int 0]), (xI 1024), .inr (4, [.ref 18, .ref 19, .ref 20, .ref 21, .ref 22, .ref 23, .ref 24, .ref 25]), (xI 8), (xI 192), (xI 192), (xI 192), (xI 192), (xI 192), (xI 192), (xJ 1536), .inr (5, [.ref 27, .ref 28, .ref 29, .ref 30, .ref 31, .ref 32, .ref 33, .ref 34, .ref 35, .ref 36, .ref 37, .int 0]), (xI 192), (xI 192), .inl (.int, 192, .inl xOne), (xZ 192), (xI 192), (xI 192), (xB 12288), (xJ 12288), (xB 12288), (xZ 192), (xI 192), .inr (5, [.ref 39, .ref 40, .ref 41, .ref 42, .ref 43, .ref 44, .ref 45, .ref 46, .ref 47, .ref 48, .ref 49, .int 0]), (xI 192), (xI 192), .inl (.int, 192, .inl xOne), (xZ 192), (xI 192), (xI 192), (xB 12288), (xJ 12288), (xB 12288), (xZ 192), (xI 192), .inr (3, [.ref 17, .ref 26, .int 0, .int 0, .long 0]), .inr (2, [.ref 52, .ref 53, .ref 54]), .inl (.int, 4, .inl (upd (upd (upd (upd (fun _ => 0) 0 (-1)) 1 (-1)) 2 (-1)) 3 (-1))), (xI 4), (xJ 160), (xJ 16), .inr (4, [.ref 57, .ref 58, .ref 59, .ref 60, .ref 61, .ref 62, .ref 63, .ref 64]), (xI 8), (xI 192), (xI 192), (xI 192), (xI 192), (xI 192), (xI 192), (xJ 1536), .inr (5, [.ref 66, .ref 67, .ref 68, .ref 69, .ref 70, .ref 71, .ref 72, .ref 73, .ref 74, .ref 75, .ref 76, .int 0]), (xI 192), (xI 192), .inl (.int, 192, .inl xOne), (xZ 192), (xI 192), (xI 192), (xB 12288), (xJ 12288), (xB 12288), (xZ 192), (xI 192), .inr (7, [.int 0, .ref 78, .ref 79, .ref 80, .ref 81, .ref 82, .ref 83, .ref 84, .ref 85, .int 99, .ref 86, .ref 87, .ref 88, .ref 89, .ref 90, .ref 91, .ref 92, .ref 93, .ref 94, .int 0, .int 0, .int 0, .int 0, .int 0, .int 0, .int 0, .int 0, .ref 95, .ref 96, .ref 97, .ref 98, .ref 99, .ref 100, .ref 101, .ref 102, .int 0, .int 0, .int 0, .long 0, .int 0, .ref 103, .ref 104, .ref 105, .ref 106, .ref 107, .ref 108, .ref 109, .ref 110, .ref 111, .ref 112, .ref 113, .ref 114, .ref 115, .ref 116, .ref 117, .ref 118, .ref 119, .ref 120, .ref 121, .ref 122, .ref 123, .ref 124, .ref 125, .int 0, .int 0, .ref 126, .ref 127, .ref 128, .ref 129]), (xI 8), (xI 192), (xI 192), (xI 192), (xJ 192), (xJ 192), (xI 192), (xJ 1536), (xI 192), (xI 192), (xZ 192), (xI 192), (xI 192), (xI 12288), (xJ 12288), (xI 12288), (xI 120), (xI 24), (xI 24), (xI 24), (xJ 24), (xJ 24), (xI 24), (xJ 192), (xI 4096), (xI 192), (xI 192), (xI 192), (xI 192), (xI 12288), (xJ 12288), (xI 12288), (xJ 16), (xI 8), (xI 192), (xI 192), (xI 192), (xJ 192), (xJ 192), (xI 192), (xJ 1536), (xI 192), (xI 192), (xI 192), (xI 192), (xI 12288), (xJ 12288), (xI 12288), (xZ 4), (xI 4), (xI 4), (xJ 160)] : xH) = hp s0 := (cg2 hc_0 (cg2 hc_1 (cg2 hc_2 (cg2 hc_3 (cg2 hc_4 (cg2 hc_5 (cg2 hc_6 (cg2 hc_7 (cg2 hc_8 (cg2 hc_9 (cg2 hc_10 (cg2 hc_11 (cg2 hc_12 (cg2 hc_13 (cg2 hc_14 (cg2 hc_15 (cg2 hc_16 (cg2 hc_17 (cg2 hc_18 (cg2 hc_19 (cg2 hc_20 (cg2 hc_21 (cg2 hc_22 (cg2 hc_23 (cg2 hc_24 (cg2 hc_25 (cg2 hc_26 (cg2 hc_27 (cg2 hc_28 (cg2 hc_29 (cg2 hc_30 (cg2 hc_31 (cg2 hc_32 (cg2 hc_33 (cg2 hc_34 (cg2 hc_35 (cg2 hc_36 (cg2 hc_37 (cg2 hc_38 (cg2 hc_39 (cg2 hc_40 (cg2 hc_41 (cg2 hc_42 (cg2 hc_43 (cg2 hc_44 (cg2 hc_45 (cg2 hc_46 (cg2 hc_47 (cg2 hc_48 (cg2 hc_49 (cg2 hc_50 (cg2 hc_51 (cg2 hc_52 (cg2 hc_53 (cg2 hc_54 (cg2 hc_55 (cg2 hc_56 (cg2 hc_57 (cg2 hc_58 (cg2 hc_59 (cg2 hc_60 (cg2 hc_61 (cg2 hc_62 (cg2 hc_63 (cg2 hc_64 (cg2 hc_65 (cg2 hc_66 (cg2 hc_67 (cg2 hc_68 (cg2 hc_69 (cg2 hc_70 (cg2 hc_71 (cg2 hc_72 (cg2 hc_73 (cg2 hc_74 (cg2 hc_75 (cg2 hc_76 (cg2 hc_77 (cg2 hc_78 (cg2 hc_79 (cg2 hc_80 (cg2 hc_81 (cg2 hc_82 (cg2 hc_83 (cg2 hc_84 (cg2 hc_85 (cg2 hc_86 (cg2 hc_87 (cg2 hc_88 (cg2 hc_89 (cg2 hc_90 (cg2 hc_91 (cg2 hc_92 (cg2 hc_93 (cg2 hc_94 (cg2 hc_95 (cg2 hc_96 (cg2 hc_97 (cg2 hc_98 (cg2 hc_99 (cg2 hc_100 (cg2 hc_101 (cg2 hc_102 (cg2 hc_103 (cg2 hc_104 (cg2 hc_105 (cg2 hc_106 (cg2 hc_107 (cg2 hc_108 (cg2 hc_109 (cg2 hc_110 (cg2 hc_111 (cg2 hc_112 (cg2 hc_113 (cg2 hc_114 (cg2 hc_115 (cg2 hc_116 (cg2 hc_117 (cg2 hc_118 (cg2 hc_119 (cg2 hc_120 (cg2 hc_121 (cg2 hc_122 (cg2 hc_123 (cg2 hc_124 (cg2 hc_125 (cg2 hc_126 (cg2 hc_127 (cg2 hc_128 (cg2 hc_129 rfl))))))))))))))))))))))))))))))))))))))))))))))))))))))))))))))))))))))))))))))))))))))))))))))))))))))))))))))))))))))))))))))))))
end
section
theorem i0_0 : xIns xg 0 0 = some (.new 7) := by decide +kernel
theorem i0_3 : xIns xg 0 3 = some (.dup) := by decide +kernel
theorem i0_4 : xIns xg 0 4 = some (.invokespecial 9) := by decide +kernel
theorem i0_7 : xIns xg 0 7 = some (.astore_n 1) := by decide +kernel
theorem i0_8 : xIns xg 0 8 = some (.new 10) := by decide +kernel
theorem i0_11 : xIns xg 0 11 = some (.dup) := by decide +kernel
theorem i0_12 : xIns xg 0 12 = some (.invokespecial 12) := by decide +kernel
theorem i0_15 : xIns xg 0 15 = some (.astore_n 2) := by decide +kernel
theorem i0_16 : xIns xg 0 16 = some (.iconst 0) := by decide +kernel
theorem i0_17 : xIns xg 0 17 = some (.istore_n 3) := by decide +kernel
theorem n0_7 : xCls xg 0 7 = some 6 := by decide +kernel
theorem n0_10 : xCls xg 0 10 = some 7 := by decide +kernel
theorem l0_9 : xMth xg 0 9 = some (4, 93, 1, 6) := by decide +kernel
theorem l0_12 : xMth xg 0 12 = some (4, 143, 1, 7) := by decide +kernel
set_option maxRecDepth 100000 in
set_option maxHeartbeats 4000000 in
/-- the law's run, out of its loop as a pure function -/
theorem law_run {L N n : Nat} {xs : Nat → Int32} {R : Rs} (hR : d_law_18L N (L, xs) n s0 0 = some R) (h1 : R.2 = 1) : xT xg (L, xs) 1300 0 0 [(0, .retAddr 0)] [] [] (fun r => r.1 = some (.int 1) ∧ r.2.2.1 ≤ 600000 ∧ r.2.2.2 ≤ 7302250) := by
  refine tNew (n := 0) i0_0 n0_7 rfl ?_
  refine wD 4 i0_3 rfl rfl rfl ?_
  refine wCallV 7 [.ref 0] [.ref 0] i0_4 rfl (xlk4 l0_9) (Or.inr (Or.inr (Or.inl rfl))) m93 rfl rfl (Nat.le_of_ble_eq_true rfl) (Nat.le_of_ble_eq_true rfl) (Nat.le_of_ble_eq_true rfl) rfl rfl (k_LateRows (d := 1296)) ?_
  refine wSan 8 [(1, .ref 0), (0, .retAddr 0)] i0_7 m0 (by decide) rfl rfl ?_
  refine tNew (n := 77) i0_8 n0_10 rfl ?_
  refine wD 12 i0_11 rfl rfl rfl ?_
  refine wCallV 15 [.ref 77] [.ref 77] i0_12 rfl (xlk4 l0_12) (Or.inr (Or.inr (Or.inl rfl))) m143 rfl rfl (Nat.le_of_ble_eq_true rfl) (Nat.le_of_ble_eq_true rfl) (Nat.le_of_ble_eq_true rfl) rfl rfl (k_Model (d := 1298) _ _ _ _ _ _ _ _ _ _ _ _ _ _ _ _ _ _ _ _ _ _ _ _ _ _ _ _ _ _ _ _ _ _ _ _ _ _ _ _ _ _ _ _ _ _ _ _ _ _ _ _ _ _ _ _ _ _ _ _ _ _ _ _ _ _ _ _ _ _ _ _ _ _ _ _ _) ?_
  refine wSan 16 [(2, .ref 77), (1, .ref 0), (0, .retAddr 0)] i0_15 m0 (by decide) rfl rfl ?_
  refine wK 17 0 i0_16 (by decide) rfl ?_
  refine wSin 18 [(3, .int 0), (2, .ref 77), (1, .ref 0), (0, .retAddr 0)] i0_17 m0 (by decide) rfl rfl ?_
  refine tHeap (h' := hp s0) s0_heap ?_
  refine tLc [(0, .retAddr 0), (1, .ref 0), (2, .ref 77), (3, vi 0)] (xNdk [0, 1, 2, 3] rfl (by decide)) (xNdk [3, 2, 1, 0] rfl (by decide)) ⟨rfl, rfl, rfl, rfl, trivial⟩ ?_
  refine tPost (c_law_18L N (L, xs) (d := 1300) (Nat.le_of_ble_eq_true rfl) n s0 0 hR) ?_
  rintro r rfl
  exact ⟨by show some (vi R.2) = _; rw [h1]; rfl, Nat.le_of_ble_eq_true rfl, Nat.le_of_ble_eq_true rfl⟩
set_option maxRecDepth 100000 in
theorem whole_of {p : Program} {e : Env} {s : State} {m : MethodId} {below : List Frame} {meth : Method} {c : Code} (l : Launch) {b L : Nat} {xs : Nat → Int32} (C0 : lw_At p s m meth c b L xs) (hlaw : ∃ N n R, d_law_18L N (L, xs) n s0 0 = some R ∧ R.2 = 1) : W p l e room_1 s m #[Value.ref b] below meth c s.heap [] 0 0 (lw_Z below #[Value.ref b] s) (entryFrame m ([Value.ref b] : List Value).toArray 4) := by
  obtain ⟨N, n, R, h1, h2⟩ := hlaw
  exact x_law l C0 (List.forall_mem_cons.mpr ⟨List.mem_of_getElem? (i := 111) (by decide +kernel), List.forall_mem_cons.mpr ⟨List.mem_of_getElem? (i := 203) (by decide +kernel), fun _ h => absurd h List.not_mem_nil⟩⟩) (law_run h1 h2)
end
