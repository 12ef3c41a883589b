theorem l86_82 : xMth xg 86 82 = some (0, 16, 2, 1) := by decide +kernel
theorem l117_86 : xMth xg 117 86 = some (1, 98, 1, 0) := by decide +kernel
theorem l117_90 : xMth xg 117 90 = some (0, 29, 1, 1) := by decide +kernel
theorem l117_97 : xMth xg 117 97 = some (0, 70, 4, 4) := by decide +kernel
theorem l117_101 : xMth xg 117 101 = some (0, 77, 1, 5) := by decide +kernel
theorem l29_43 : xMth xg 29 43 = some (0, 31, 1, 1) := by decide +kernel
theorem l29_46 : xMth xg 29 46 = some (0, 27, 2, 1) := by decide +kernel
theorem l29_52 : xMth xg 29 52 = some (1, 3, 1, 0) := by decide +kernel
theorem l29_58 : xMth xg 29 58 = some (0, 22, 1, 1) := by decide +kernel
theorem l29_61 : xMth xg 29 61 = some (0, 63, 3, 4) := by decide +kernel
theorem l27_65 : xMth xg 27 65 = some (8, 0, 0, 0) := by decide +kernel
theorem l27_71 : xMth xg 27 71 = some (0, 62, 3, 4) := by decide +kernel
theorem l27_58 : xMth xg 27 58 = some (0, 22, 1, 1) := by decide +kernel
theorem l27_77 : xMth xg 27 77 = some (1, 4, 1, 0) := by decide +kernel
theorem l27_81 : xMth xg 27 81 = some (0, 204, 1, 98) := by decide +kernel
theorem l27_87 : xMth xg 27 87 = some (0, 197, 2, 98) := by decide +kernel
theorem l27_91 : xMth xg 27 91 = some (0, 23, 3, 1) := by decide +kernel
theorem l197_492 : xMth xg 197 492 = some (0, 203, 1, 98) := by decide +kernel
theorem l197_495 : xMth xg 197 495 = some (1, 206, 2, 0) := by decide +kernel
theorem l197_498 : xMth xg 197 498 = some (1, 209, 2, 0) := by decide +kernel
theorem l206_9 : xMth xg 206 9 = some (1, 199, 2, 0) := by decide +kernel
theorem l199_1059 : xMth xg 199 1059 = some (1, 219, 3, 0) := by decide +kernel
theorem l204_335 : xMth xg 204 335 = some (0, 200, 1, 98) := by decide +kernel
theorem l23_100 : xMth xg 23 100 = some (0, 28, 2, 1) := by decide +kernel
theorem l23_106 : xMth xg 23 106 = some (0, 24, 1, 1) := by decide +kernel
theorem l23_112 : xMth xg 23 112 = some (0, 25, 3, 1) := by decide +kernel
theorem l23_115 : xMth xg 23 115 = some (0, 26, 2, 1) := by decide +kernel
theorem l24_122 : xMth xg 24 122 = some (0, 18, 2, 1) := by decide +kernel
theorem l24_112 : xMth xg 24 112 = some (0, 25, 3, 1) := by decide +kernel
theorem l25_58 : xMth xg 25 58 = some (0, 22, 1, 1) := by decide +kernel
theorem l26_106 : xMth xg 26 106 = some (0, 24, 1, 1) := by decide +kernel
theorem l26_122 : xMth xg 26 122 = some (0, 18, 2, 1) := by decide +kernel
theorem l26_58 : xMth xg 26 58 = some (0, 22, 1, 1) := by decide +kernel
theorem l28_129 : xMth xg 28 129 = some (0, 201, 2, 98) := by decide +kernel
theorem l28_58 : xMth xg 28 58 = some (0, 22, 1, 1) := by decide +kernel
theorem l201_633 : xMth xg 201 633 = some (0, 202, 3, 98) := by decide +kernel
theorem l202_492 : xMth xg 202 492 = some (0, 203, 1, 98) := by decide +kernel
theorem l202_505 : xMth xg 202 505 = some (0, 204, 1, 98) := by decide +kernel
theorem l202_637 : xMth xg 202 637 = some (1, 208, 4, 0) := by decide +kernel
theorem l202_640 : xMth xg 202 640 = some (1, 216, 4, 0) := by decide +kernel
theorem l208_88 : xMth xg 208 88 = some (1, 205, 1, 0) := by decide +kernel
theorem l208_92 : xMth xg 208 92 = some (8, 0, 0, 0) := by decide +kernel
theorem l208_38 : xMth xg 208 38 = some (9, 0, 0, 0) := by decide +kernel
theorem l208_95 : xMth xg 208 95 = some (1, 207, 4, 0) := by decide +kernel
theorem l31_132 : xMth xg 31 132 = some (1, 30, 1, 0) := by decide +kernel
theorem l31_135 : xMth xg 31 135 = some (0, 21, 4, 1) := by decide +kernel
theorem l21_141 : xMth xg 21 141 = some (0, 20, 3, 1) := by decide +kernel
theorem l20_144 : xMth xg 20 144 = some (1, 5, 1, 0) := by decide +kernel
theorem l20_147 : xMth xg 20 147 = some (0, 19, 4, 1) := by decide +kernel
theorem l19_81 : xMth xg 19 81 = some (0, 204, 1, 98) := by decide +kernel
theorem l19_87 : xMth xg 19 87 = some (0, 197, 2, 98) := by decide +kernel
theorem l30_129 : xMth xg 30 129 = some (0, 201, 2, 98) := by decide +kernel
theorem l63_37 : xMth xg 63 37 = some (1, 3, 1, 0) := by decide +kernel
theorem l70_43 : xMth xg 70 43 = some (0, 69, 5, 4) := by decide +kernel
theorem l69_51 : xMth xg 69 51 = some (7, 0, 0, 0) := by decide +kernel
theorem l77_52 : xMth xg 77 52 = some (0, 78, 2, 5) := by decide +kernel
theorem l84_86 : xMth xg 84 86 = some (1, 98, 1, 0) := by decide +kernel
theorem l84_101 : xMth xg 84 101 = some (0, 77, 1, 5) := by decide +kernel
theorem l105_86 : xMth xg 105 86 = some (1, 98, 1, 0) := by decide +kernel
theorem l105_108 : xMth xg 105 108 = some (0, 95, 2, 6) := by decide +kernel
theorem l105_111 : xMth xg 105 111 = some (0, 90, 3, 6) := by decide +kernel
theorem l90_86 : xMth xg 90 86 = some (1, 98, 1, 0) := by decide +kernel
theorem l104_111 : xMth xg 104 111 = some (0, 90, 3, 6) := by decide +kernel
theorem l104_135 : xMth xg 104 135 = some (1, 2, 1, 0) := by decide +kernel
theorem l85_111 : xMth xg 85 111 = some (0, 90, 3, 6) := by decide +kernel
theorem l119_86 : xMth xg 119 86 = some (1, 98, 1, 0) := by decide +kernel
theorem l119_108 : xMth xg 119 108 = some (0, 95, 2, 6) := by decide +kernel
theorem l119_111 : xMth xg 119 111 = some (0, 90, 3, 6) := by decide +kernel
theorem l119_135 : xMth xg 119 135 = some (1, 2, 1, 0) := by decide +kernel
theorem l119_146 : xMth xg 119 146 = some (1, 1, 2, 0) := by decide +kernel
theorem l119_101 : xMth xg 119 101 = some (0, 77, 1, 5) := by decide +kernel
theorem l113_86 : xMth xg 113 86 = some (1, 98, 1, 0) := by decide +kernel
theorem l113_108 : xMth xg 113 108 = some (0, 95, 2, 6) := by decide +kernel
theorem l113_111 : xMth xg 113 111 = some (0, 90, 3, 6) := by decide +kernel
theorem l113_149 : xMth xg 113 149 = some (1, 3, 1, 0) := by decide +kernel
theorem l106_86 : xMth xg 106 86 = some (1, 98, 1, 0) := by decide +kernel
theorem l106_108 : xMth xg 106 108 = some (0, 95, 2, 6) := by decide +kernel
theorem l106_152 : xMth xg 106 152 = some (0, 14, 3, 0) := by decide +kernel
theorem l14_24 : xMth xg 14 24 = some (0, 12, 3, 0) := by decide +kernel
theorem l12_34 : xMth xg 12 34 = some (0, 13, 2, 0) := by decide +kernel
theorem l12_38 : xMth xg 12 38 = some (1, 5, 1, 0) := by decide +kernel
theorem l12_44 : xMth xg 12 44 = some (0, 15, 2, 0) := by decide +kernel
theorem l12_48 : xMth xg 12 48 = some (1, 4, 1, 0) := by decide +kernel
theorem l12_51 : xMth xg 12 51 = some (0, 204, 1, 98) := by decide +kernel
theorem l12_57 : xMth xg 12 57 = some (0, 197, 2, 98) := by decide +kernel
theorem l12_61 : xMth xg 12 61 = some (0, 9, 4, 0) := by decide +kernel
theorem l9_34 : xMth xg 9 34 = some (0, 13, 2, 0) := by decide +kernel
theorem l9_71 : xMth xg 9 71 = some (0, 10, 2, 0) := by decide +kernel
theorem l9_75 : xMth xg 9 75 = some (0, 11, 3, 0) := by decide +kernel
theorem l10_85 : xMth xg 10 85 = some (0, 7, 1, 0) := by decide +kernel
theorem l10_88 : xMth xg 10 88 = some (0, 8, 2, 0) := by decide +kernel
theorem l7_88 : xMth xg 7 88 = some (0, 8, 2, 0) := by decide +kernel
theorem l11_34 : xMth xg 11 34 = some (0, 13, 2, 0) := by decide +kernel
theorem l11_71 : xMth xg 11 71 = some (0, 10, 2, 0) := by decide +kernel
theorem l13_85 : xMth xg 13 85 = some (0, 7, 1, 0) := by decide +kernel
theorem l13_88 : xMth xg 13 88 = some (0, 8, 2, 0) := by decide +kernel
theorem l15_85 : xMth xg 15 85 = some (0, 7, 1, 0) := by decide +kernel
theorem l15_51 : xMth xg 15 51 = some (0, 204, 1, 98) := by decide +kernel
theorem l15_57 : xMth xg 15 57 = some (0, 197, 2, 98) := by decide +kernel
theorem l15_88 : xMth xg 15 88 = some (0, 8, 2, 0) := by decide +kernel
theorem l118_162 : xMth xg 118 162 = some (0, 108, 3, 6) := by decide +kernel
theorem l118_166 : xMth xg 118 166 = some (0, 42, 3, 3) := by decide +kernel
theorem l118_170 : xMth xg 118 170 = some (0, 49, 3, 3) := by decide +kernel
theorem l118_173 : xMth xg 118 173 = some (0, 82, 2, 6) := by decide +kernel
theorem l49_30 : xMth xg 49 30 = some (0, 41, 3, 3) := by decide +kernel
theorem l58_99 : xMth xg 58 99 = some (0, 65, 2, 4) := by decide +kernel
theorem l58_131 : xMth xg 58 131 = some (0, 59, 2, 3) := by decide +kernel
theorem l58_34 : xMth xg 58 34 = some (0, 40, 3, 3) := by decide +kernel
theorem l58_138 : xMth xg 58 138 = some (0, 45, 4, 3) := by decide +kernel
theorem l58_105 : xMth xg 58 105 = some (0, 67, 2, 4) := by decide +kernel
theorem l53_34 : xMth xg 53 34 = some (0, 40, 3, 3) := by decide +kernel
theorem l60_99 : xMth xg 60 99 = some (0, 65, 2, 4) := by decide +kernel
theorem l60_30 : xMth xg 60 30 = some (0, 41, 3, 3) := by decide +kernel
theorem l60_105 : xMth xg 60 105 = some (0, 67, 2, 4) := by decide +kernel
theorem l60_34 : xMth xg 60 34 = some (0, 40, 3, 3) := by decide +kernel
theorem l60_111 : xMth xg 60 111 = some (1, 52, 3, 0) := by decide +kernel
theorem l50_99 : xMth xg 50 99 = some (0, 65, 2, 4) := by decide +kernel
theorem l50_105 : xMth xg 50 105 = some (0, 67, 2, 4) := by decide +kernel
theorem l50_30 : xMth xg 50 30 = some (0, 41, 3, 3) := by decide +kernel
theorem l50_34 : xMth xg 50 34 = some (0, 40, 3, 3) := by decide +kernel
theorem l56_99 : xMth xg 56 99 = some (0, 65, 2, 4) := by decide +kernel
theorem l56_30 : xMth xg 56 30 = some (0, 41, 3, 3) := by decide +kernel
theorem l56_34 : xMth xg 56 34 = some (0, 40, 3, 3) := by decide +kernel
theorem l56_111 : xMth xg 56 111 = some (1, 52, 3, 0) := by decide +kernel
theorem l56_118 : xMth xg 56 118 = some (0, 53, 4, 3) := by decide +kernel
theorem l40_37 : xMth xg 40 37 = some (0, 44, 2, 3) := by decide +kernel
theorem l40_54 : xMth xg 40 54 = some (0, 43, 1, 3) := by decide +kernel
theorem l40_84 : xMth xg 40 84 = some (0, 58, 3, 3) := by decide +kernel
theorem l41_37 : xMth xg 41 37 = some (0, 44, 2, 3) := by decide +kernel
theorem l41_54 : xMth xg 41 54 = some (0, 43, 1, 3) := by decide +kernel
theorem l41_58 : xMth xg 41 58 = some (0, 74, 2, 5) := by decide +kernel
theorem l41_62 : xMth xg 41 62 = some (0, 57, 2, 3) := by decide +kernel
theorem l41_66 : xMth xg 41 66 = some (0, 56, 3, 3) := by decide +kernel
theorem l41_74 : xMth xg 41 74 = some (0, 50, 3, 3) := by decide +kernel
theorem l41_77 : xMth xg 41 77 = some (0, 60, 3, 3) := by decide +kernel
theorem l108_196 : xMth xg 108 196 = some (0, 109, 4, 6) := by decide +kernel
theorem l109_86 : xMth xg 109 86 = some (1, 98, 1, 0) := by decide +kernel
theorem l109_108 : xMth xg 109 108 = some (0, 95, 2, 6) := by decide +kernel
theorem l94_162 : xMth xg 94 162 = some (0, 108, 3, 6) := by decide +kernel
theorem l94_166 : xMth xg 94 166 = some (0, 42, 3, 3) := by decide +kernel
theorem l94_176 : xMth xg 94 176 = some (0, 51, 3, 3) := by decide +kernel
theorem l94_173 : xMth xg 94 173 = some (0, 82, 2, 6) := by decide +kernel
theorem l51_30 : xMth xg 51 30 = some (0, 41, 3, 3) := by decide +kernel
theorem l51_34 : xMth xg 51 34 = some (0, 40, 3, 3) := by decide +kernel
theorem l91_162 : xMth xg 91 162 = some (0, 108, 3, 6) := by decide +kernel
theorem l91_166 : xMth xg 91 166 = some (0, 42, 3, 3) := by decide +kernel
theorem l91_176 : xMth xg 91 176 = some (0, 51, 3, 3) := by decide +kernel
theorem l91_173 : xMth xg 91 173 = some (0, 82, 2, 6) := by decide +kernel
theorem l103_162 : xMth xg 103 162 = some (0, 108, 3, 6) := by decide +kernel
theorem l103_183 : xMth xg 103 183 = some (0, 75, 2, 5) := by decide +kernel
theorem l103_166 : xMth xg 103 166 = some (0, 42, 3, 3) := by decide +kernel
theorem l103_176 : xMth xg 103 176 = some (0, 51, 3, 3) := by decide +kernel
theorem l75_56 : xMth xg 75 56 = some (0, 77, 1, 5) := by decide +kernel
theorem l75_59 : xMth xg 75 59 = some (0, 76, 3, 5) := by decide +kernel
theorem l76_63 : xMth xg 76 63 = some (0, 74, 2, 5) := by decide +kernel
theorem l76_66 : xMth xg 76 66 = some (7, 0, 0, 0) := by decide +kernel
theorem l89_190 : xMth xg 89 190 = some (0, 72, 1, 5) := by decide +kernel
theorem l89_193 : xMth xg 89 193 = some (0, 71, 1, 5) := by decide +kernel
theorem l89_101 : xMth xg 89 101 = some (0, 77, 1, 5) := by decide +kernel
theorem l112_196 : xMth xg 112 196 = some (0, 109, 4, 6) := by decide +kernel
theorem l112_166 : xMth xg 112 166 = some (0, 42, 3, 3) := by decide +kernel
theorem l112_200 : xMth xg 112 200 = some (0, 39, 3, 3) := by decide +kernel
theorem l112_173 : xMth xg 112 173 = some (0, 82, 2, 6) := by decide +kernel
theorem l39_142 : xMth xg 39 142 = some (0, 51, 3, 3) := by decide +kernel
theorem l39_131 : xMth xg 39 131 = some (0, 59, 2, 3) := by decide +kernel
theorem l88_196 : xMth xg 88 196 = some (0, 109, 4, 6) := by decide +kernel
theorem l88_166 : xMth xg 88 166 = some (0, 42, 3, 3) := by decide +kernel
theorem l88_205 : xMth xg 88 205 = some (0, 54, 4, 3) := by decide +kernel
theorem l88_173 : xMth xg 88 173 = some (0, 82, 2, 6) := by decide +kernel
theorem l54_142 : xMth xg 54 142 = some (0, 51, 3, 3) := by decide +kernel
theorem l83_86 : xMth xg 83 86 = some (1, 98, 1, 0) := by decide +kernel
theorem l83_108 : xMth xg 83 108 = some (0, 95, 2, 6) := by decide +kernel
theorem l83_166 : xMth xg 83 166 = some (0, 42, 3, 3) := by decide +kernel
theorem l83_209 : xMth xg 83 209 = some (0, 46, 4, 3) := by decide +kernel
theorem l83_173 : xMth xg 83 173 = some (0, 82, 2, 6) := by decide +kernel
theorem l46_142 : xMth xg 46 142 = some (0, 51, 3, 3) := by decide +kernel
theorem l110_196 : xMth xg 110 196 = some (0, 109, 4, 6) := by decide +kernel
theorem l110_166 : xMth xg 110 166 = some (0, 42, 3, 3) := by decide +kernel
theorem l110_212 : xMth xg 110 212 = some (0, 55, 2, 3) := by decide +kernel
theorem l110_173 : xMth xg 110 173 = some (0, 82, 2, 6) := by decide +kernel
theorem l55_142 : xMth xg 55 142 = some (0, 51, 3, 3) := by decide +kernel
theorem l87_215 : xMth xg 87 215 = some (1, 97, 1, 0) := by decide +kernel
theorem l87_196 : xMth xg 87 196 = some (0, 109, 4, 6) := by decide +kernel
theorem l87_166 : xMth xg 87 166 = some (0, 42, 3, 3) := by decide +kernel
theorem l87_218 : xMth xg 87 218 = some (0, 47, 4, 3) := by decide +kernel
theorem l87_173 : xMth xg 87 173 = some (0, 82, 2, 6) := by decide +kernel
theorem l87_222 : xMth xg 87 222 = some (0, 36, 4, 2) := by decide +kernel
theorem l87_226 : xMth xg 87 226 = some (0, 38, 4, 2) := by decide +kernel
theorem l47_142 : xMth xg 47 142 = some (0, 51, 3, 3) := by decide +kernel
theorem l116_215 : xMth xg 116 215 = some (1, 97, 1, 0) := by decide +kernel
theorem l116_86 : xMth xg 116 86 = some (1, 98, 1, 0) := by decide +kernel
theorem l116_230 : xMth xg 116 230 = some (1, 96, 1, 0) := by decide +kernel
theorem l116_108 : xMth xg 116 108 = some (0, 95, 2, 6) := by decide +kernel
theorem l116_111 : xMth xg 116 111 = some (0, 90, 3, 6) := by decide +kernel
theorem l116_135 : xMth xg 116 135 = some (1, 2, 1, 0) := by decide +kernel
theorem l116_233 : xMth xg 116 233 = some (0, 33, 2, 2) := by decide +kernel
theorem l116_237 : xMth xg 116 237 = some (0, 115, 2, 6) := by decide +kernel
theorem l116_240 : xMth xg 116 240 = some (0, 114, 5, 6) := by decide +kernel
theorem l114_146 : xMth xg 114 146 = some (1, 1, 2, 0) := by decide +kernel
theorem l114_101 : xMth xg 114 101 = some (0, 77, 1, 5) := by decide +kernel
theorem l114_275 : xMth xg 114 275 = some (0, 99, 3, 6) := by decide +kernel
theorem l99_166 : xMth xg 99 166 = some (0, 42, 3, 3) := by decide +kernel
theorem l99_176 : xMth xg 99 176 = some (0, 51, 3, 3) := by decide +kernel
theorem l99_258 : xMth xg 99 258 = some (0, 35, 3, 2) := by decide +kernel
theorem l115_108 : xMth xg 115 108 = some (0, 95, 2, 6) := by decide +kernel
theorem l115_183 : xMth xg 115 183 = some (0, 75, 2, 5) := by decide +kernel
theorem l115_275 : xMth xg 115 275 = some (0, 99, 3, 6) := by decide +kernel
theorem l92_244 : xMth xg 92 244 = some (0, 68, 2, 4) := by decide +kernel
theorem l92_183 : xMth xg 92 183 = some (0, 75, 2, 5) := by decide +kernel
theorem l92_247 : xMth xg 92 247 = some (0, 64, 1, 4) := by decide +kernel
theorem l68_47 : xMth xg 68 47 = some (0, 70, 4, 4) := by decide +kernel
theorem l79_244 : xMth xg 79 244 = some (0, 68, 2, 4) := by decide +kernel
theorem l79_183 : xMth xg 79 183 = some (0, 75, 2, 5) := by decide +kernel
theorem l79_247 : xMth xg 79 247 = some (0, 64, 1, 4) := by decide +kernel
theorem l81_247 : xMth xg 81 247 = some (0, 64, 1, 4) := by decide +kernel
theorem l81_250 : xMth xg 81 250 = some (0, 61, 1, 4) := by decide +kernel
theorem l81_190 : xMth xg 81 190 = some (0, 72, 1, 5) := by decide +kernel
theorem l81_193 : xMth xg 81 193 = some (0, 71, 1, 5) := by decide +kernel
theorem l111_215 : xMth xg 111 215 = some (1, 97, 1, 0) := by decide +kernel
theorem l111_222 : xMth xg 111 222 = some (0, 36, 4, 2) := by decide +kernel
theorem l107_215 : xMth xg 107 215 = some (1, 97, 1, 0) := by decide +kernel
theorem l107_233 : xMth xg 107 233 = some (0, 33, 2, 2) := by decide +kernel
theorem l107_254 : xMth xg 107 254 = some (0, 37, 4, 2) := by decide +kernel
theorem l107_226 : xMth xg 107 226 = some (0, 38, 4, 2) := by decide +kernel
theorem l100_215 : xMth xg 100 215 = some (1, 97, 1, 0) := by decide +kernel
theorem l100_233 : xMth xg 100 233 = some (0, 33, 2, 2) := by decide +kernel
theorem l100_254 : xMth xg 100 254 = some (0, 37, 4, 2) := by decide +kernel
theorem l100_258 : xMth xg 100 258 = some (0, 35, 3, 2) := by decide +kernel
theorem l80_215 : xMth xg 80 215 = some (1, 97, 1, 0) := by decide +kernel
theorem l80_233 : xMth xg 80 233 = some (0, 33, 2, 2) := by decide +kernel
theorem l80_254 : xMth xg 80 254 = some (0, 37, 4, 2) := by decide +kernel
theorem l80_264 : xMth xg 80 264 = some (0, 34, 6, 2) := by decide +kernel
theorem l34_22 : xMth xg 34 22 = some (7, 0, 0, 0) := by decide +kernel
theorem l101_215 : xMth xg 101 215 = some (1, 97, 1, 0) := by decide +kernel
theorem l101_86 : xMth xg 101 86 = some (1, 98, 1, 0) := by decide +kernel
theorem l101_233 : xMth xg 101 233 = some (0, 33, 2, 2) := by decide +kernel
theorem l101_254 : xMth xg 101 254 = some (0, 37, 4, 2) := by decide +kernel
theorem l101_268 : xMth xg 101 268 = some (0, 62, 3, 4) := by decide +kernel
theorem l101_258 : xMth xg 101 258 = some (0, 35, 3, 2) := by decide +kernel
theorem l101_272 : xMth xg 101 272 = some (0, 63, 3, 4) := by decide +kernel
theorem l101_101 : xMth xg 101 101 = some (0, 77, 1, 5) := by decide +kernel
theorem l131_177 : xMth xg 131 177 = some (1, 142, 3, 0) := by decide +kernel
theorem l190_266 : xMth xg 190 266 = some (1, 153, 1, 0) := by decide +kernel
theorem l190_238 : xMth xg 190 238 = some (0, 167, 1, 7) := by decide +kernel
theorem l190_263 : xMth xg 190 263 = some (0, 182, 1, 7) := by decide +kernel
theorem l190_245 : xMth xg 190 245 = some (0, 130, 1, 7) := by decide +kernel
theorem l190_269 : xMth xg 190 269 = some (0, 195, 1, 7) := by decide +kernel
theorem l153_177 : xMth xg 153 177 = some (1, 142, 3, 0) := by decide +kernel
theorem l167_189 : xMth xg 167 189 = some (0, 122, 2, 7) := by decide +kernel
theorem l167_177 : xMth xg 167 177 = some (1, 142, 3, 0) := by decide +kernel
theorem l167_203 : xMth xg 167 203 = some (0, 158, 1, 7) := by decide +kernel
theorem l167_214 : xMth xg 167 214 = some (1, 151, 1, 0) := by decide +kernel
theorem l158_189 : xMth xg 158 189 = some (0, 122, 2, 7) := by decide +kernel
theorem l158_177 : xMth xg 158 177 = some (1, 142, 3, 0) := by decide +kernel
theorem l158_231 : xMth xg 158 231 = some (0, 154, 6, 7) := by decide +kernel
theorem l154_225 : xMth xg 154 225 = some (0, 146, 3, 7) := by decide +kernel
theorem l146_189 : xMth xg 146 189 = some (0, 122, 2, 7) := by decide +kernel
theorem l182_245 : xMth xg 182 245 = some (0, 130, 1, 7) := by decide +kernel
theorem l182_203 : xMth xg 182 203 = some (0, 158, 1, 7) := by decide +kernel
theorem l182_189 : xMth xg 182 189 = some (0, 122, 2, 7) := by decide +kernel
theorem l182_238 : xMth xg 182 238 = some (0, 167, 1, 7) := by decide +kernel
theorem l182_251 : xMth xg 182 251 = some (0, 170, 2, 7) := by decide +kernel
theorem l182_255 : xMth xg 182 255 = some (0, 168, 1, 7) := by decide +kernel
theorem l182_241 : xMth xg 182 241 = some (0, 176, 3, 7) := by decide +kernel
theorem l182_259 : xMth xg 182 259 = some (0, 164, 2, 7) := by decide +kernel
theorem l182_263 : xMth xg 182 263 = some (0, 182, 1, 7) := by decide +kernel
theorem l164_255 : xMth xg 164 255 = some (0, 168, 1, 7) := by decide +kernel
theorem l164_235 : xMth xg 164 235 = some (0, 150, 2, 7) := by decide +kernel
theorem l164_245 : xMth xg 164 245 = some (0, 130, 1, 7) := by decide +kernel
theorem l164_238 : xMth xg 164 238 = some (0, 167, 1, 7) := by decide +kernel
theorem l168_235 : xMth xg 168 235 = some (0, 150, 2, 7) := by decide +kernel
theorem l168_238 : xMth xg 168 238 = some (0, 167, 1, 7) := by decide +kernel
theorem l168_241 : xMth xg 168 241 = some (0, 176, 3, 7) := by decide +kernel
theorem l176_177 : xMth xg 176 177 = some (1, 142, 3, 0) := by decide +kernel
theorem l176_245 : xMth xg 176 245 = some (0, 130, 1, 7) := by decide +kernel
theorem l176_238 : xMth xg 176 238 = some (0, 167, 1, 7) := by decide +kernel
theorem l170_235 : xMth xg 170 235 = some (0, 150, 2, 7) := by decide +kernel
theorem l170_245 : xMth xg 170 245 = some (0, 130, 1, 7) := by decide +kernel
theorem l170_238 : xMth xg 170 238 = some (0, 167, 1, 7) := by decide +kernel
theorem l128_266 : xMth xg 128 266 = some (1, 153, 1, 0) := by decide +kernel
theorem l128_269 : xMth xg 128 269 = some (0, 195, 1, 7) := by decide +kernel
theorem l173_266 : xMth xg 173 266 = some (1, 153, 1, 0) := by decide +kernel
theorem l173_177 : xMth xg 173 177 = some (1, 142, 3, 0) := by decide +kernel
theorem l173_276 : xMth xg 173 276 = some (0, 148, 3, 7) := by decide +kernel
theorem l173_279 : xMth xg 173 279 = some (0, 193, 2, 7) := by decide +kernel
theorem l148_177 : xMth xg 148 177 = some (1, 142, 3, 0) := by decide +kernel
theorem l169_266 : xMth xg 169 266 = some (1, 153, 1, 0) := by decide +kernel
theorem l169_276 : xMth xg 169 276 = some (0, 148, 3, 7) := by decide +kernel
theorem l169_282 : xMth xg 169 282 = some (1, 147, 1, 0) := by decide +kernel
theorem l147_177 : xMth xg 147 177 = some (1, 142, 3, 0) := by decide +kernel
theorem l129_266 : xMth xg 129 266 = some (1, 153, 1, 0) := by decide +kernel
theorem l129_276 : xMth xg 129 276 = some (0, 148, 3, 7) := by decide +kernel
theorem l129_177 : xMth xg 129 177 = some (1, 142, 3, 0) := by decide +kernel
theorem l194_266 : xMth xg 194 266 = some (1, 153, 1, 0) := by decide +kernel
theorem l194_177 : xMth xg 194 177 = some (1, 142, 3, 0) := by decide +kernel
theorem l194_276 : xMth xg 194 276 = some (0, 148, 3, 7) := by decide +kernel
theorem l194_282 : xMth xg 194 282 = some (1, 147, 1, 0) := by decide +kernel
theorem l194_269 : xMth xg 194 269 = some (0, 195, 1, 7) := by decide +kernel
theorem l186_266 : xMth xg 186 266 = some (1, 153, 1, 0) := by decide +kernel
theorem l186_177 : xMth xg 186 177 = some (1, 142, 3, 0) := by decide +kernel
theorem l186_276 : xMth xg 186 276 = some (0, 148, 3, 7) := by decide +kernel
theorem l186_295 : xMth xg 186 295 = some (1, 138, 1, 0) := by decide +kernel
theorem l177_266 : xMth xg 177 266 = some (1, 153, 1, 0) := by decide +kernel
theorem l177_320 : xMth xg 177 320 = some (0, 178, 2, 7) := by decide +kernel
theorem l177_177 : xMth xg 177 177 = some (1, 142, 3, 0) := by decide +kernel
theorem l178_313 : xMth xg 178 313 = some (0, 159, 2, 7) := by decide +kernel
theorem l178_309 : xMth xg 178 309 = some (0, 196, 6, 7) := by decide +kernel
theorem l178_282 : xMth xg 178 282 = some (1, 147, 1, 0) := by decide +kernel
theorem l178_316 : xMth xg 178 316 = some (0, 127, 2, 7) := by decide +kernel
theorem l127_304 : xMth xg 127 304 = some (0, 137, 1, 7) := by decide +kernel
theorem l127_301 : xMth xg 127 301 = some (0, 180, 2, 7) := by decide +kernel
theorem l137_301 : xMth xg 137 301 = some (0, 180, 2, 7) := by decide +kernel
theorem l159_309 : xMth xg 159 309 = some (0, 196, 6, 7) := by decide +kernel
theorem l196_304 : xMth xg 196 304 = some (0, 137, 1, 7) := by decide +kernel
theorem l196_301 : xMth xg 196 301 = some (0, 180, 2, 7) := by decide +kernel
theorem l191_266 : xMth xg 191 266 = some (1, 153, 1, 0) := by decide +kernel
theorem l191_177 : xMth xg 191 177 = some (1, 142, 3, 0) := by decide +kernel
theorem l191_375 : xMth xg 191 375 = some (0, 121, 2, 7) := by decide +kernel
theorem l191_342 : xMth xg 191 342 = some (0, 175, 3, 7) := by decide +kernel
theorem l125_348 : xMth xg 125 348 = some (0, 140, 3, 7) := by decide +kernel
theorem l188_366 : xMth xg 188 366 = some (0, 125, 3, 7) := by decide +kernel
theorem l188_348 : xMth xg 188 348 = some (0, 140, 3, 7) := by decide +kernel
theorem l188_345 : xMth xg 188 345 = some (0, 171, 2, 7) := by decide +kernel
theorem l188_369 : xMth xg 188 369 = some (0, 156, 4, 7) := by decide +kernel
theorem l184_348 : xMth xg 184 348 = some (0, 140, 3, 7) := by decide +kernel
theorem l157_342 : xMth xg 157 342 = some (0, 175, 3, 7) := by decide +kernel
theorem l157_348 : xMth xg 157 348 = some (0, 140, 3, 7) := by decide +kernel
theorem l157_355 : xMth xg 157 355 = some (0, 174, 3, 7) := by decide +kernel
theorem l157_359 : xMth xg 157 359 = some (0, 184, 4, 7) := by decide +kernel
theorem l165_345 : xMth xg 165 345 = some (0, 171, 2, 7) := by decide +kernel
theorem l165_342 : xMth xg 165 342 = some (0, 175, 3, 7) := by decide +kernel
theorem l165_348 : xMth xg 165 348 = some (0, 140, 3, 7) := by decide +kernel
theorem l189_336 : xMth xg 189 336 = some (0, 157, 3, 7) := by decide +kernel
theorem l189_339 : xMth xg 189 339 = some (0, 165, 3, 7) := by decide +kernel
theorem l189_342 : xMth xg 189 342 = some (0, 175, 3, 7) := by decide +kernel
theorem l189_345 : xMth xg 189 345 = some (0, 171, 2, 7) := by decide +kernel
theorem l189_348 : xMth xg 189 348 = some (0, 140, 3, 7) := by decide +kernel
theorem l189_355 : xMth xg 189 355 = some (0, 174, 3, 7) := by decide +kernel
theorem l140_323 : xMth xg 140 323 = some (0, 134, 2, 7) := by decide +kernel
theorem l140_363 : xMth xg 140 363 = some (0, 188, 3, 7) := by decide +kernel
theorem l175_323 : xMth xg 175 323 = some (0, 134, 2, 7) := by decide +kernel
theorem l175_332 : xMth xg 175 332 = some (0, 189, 3, 7) := by decide +kernel
theorem l144_266 : xMth xg 144 266 = some (1, 153, 1, 0) := by decide +kernel
theorem l144_177 : xMth xg 144 177 = some (1, 142, 3, 0) := by decide +kernel
theorem l144_375 : xMth xg 144 375 = some (0, 121, 2, 7) := by decide +kernel
theorem l144_381 : xMth xg 144 381 = some (0, 172, 3, 7) := by decide +kernel
theorem l172_342 : xMth xg 172 342 = some (0, 175, 3, 7) := by decide +kernel
theorem l172_348 : xMth xg 172 348 = some (0, 140, 3, 7) := by decide +kernel
theorem l139_384 : xMth xg 139 384 = some (0, 144, 3, 7) := by decide +kernel
theorem l166_266 : xMth xg 166 266 = some (1, 153, 1, 0) := by decide +kernel
theorem l166_177 : xMth xg 166 177 = some (1, 142, 3, 0) := by decide +kernel
theorem l166_397 : xMth xg 166 397 = some (0, 161, 1, 7) := by decide +kernel
theorem l166_375 : xMth xg 166 375 = some (0, 121, 2, 7) := by decide +kernel
theorem l166_381 : xMth xg 166 381 = some (0, 172, 3, 7) := by decide +kernel
theorem l166_400 : xMth xg 166 400 = some (0, 162, 1, 7) := by decide +kernel
theorem l163_177 : xMth xg 163 177 = some (1, 142, 3, 0) := by decide +kernel
theorem l135_389 : xMth xg 135 389 = some (0, 192, 2, 7) := by decide +kernel
theorem l135_269 : xMth xg 135 269 = some (0, 195, 1, 7) := by decide +kernel
theorem l192_279 : xMth xg 192 279 = some (0, 193, 2, 7) := by decide +kernel
theorem l185_392 : xMth xg 185 392 = some (0, 145, 2, 7) := by decide +kernel
theorem l185_177 : xMth xg 185 177 = some (1, 142, 3, 0) := by decide +kernel
theorem l185_375 : xMth xg 185 375 = some (0, 121, 2, 7) := by decide +kernel
theorem l185_381 : xMth xg 185 381 = some (0, 172, 3, 7) := by decide +kernel
theorem l145_266 : xMth xg 145 266 = some (1, 153, 1, 0) := by decide +kernel
theorem l133_266 : xMth xg 133 266 = some (1, 153, 1, 0) := by decide +kernel
theorem l133_177 : xMth xg 133 177 = some (1, 142, 3, 0) := by decide +kernel
theorem l133_375 : xMth xg 133 375 = some (0, 121, 2, 7) := by decide +kernel
theorem l133_381 : xMth xg 133 381 = some (0, 172, 3, 7) := by decide +kernel
theorem l126_266 : xMth xg 126 266 = some (1, 153, 1, 0) := by decide +kernel
theorem l126_177 : xMth xg 126 177 = some (1, 142, 3, 0) := by decide +kernel
theorem l126_375 : xMth xg 126 375 = some (0, 121, 2, 7) := by decide +kernel
theorem l126_381 : xMth xg 126 381 = some (0, 172, 3, 7) := by decide +kernel
theorem l181_266 : xMth xg 181 266 = some (1, 153, 1, 0) := by decide +kernel
theorem l181_375 : xMth xg 181 375 = some (0, 121, 2, 7) := by decide +kernel
theorem l181_381 : xMth xg 181 381 = some (0, 172, 3, 7) := by decide +kernel
theorem l132_403 : xMth xg 132 403 = some (1, 149, 1, 0) := by decide +kernel
theorem l132_266 : xMth xg 132 266 = some (1, 153, 1, 0) := by decide +kernel
theorem l132_177 : xMth xg 132 177 = some (1, 142, 3, 0) := by decide +kernel
theorem l132_375 : xMth xg 132 375 = some (0, 121, 2, 7) := by decide +kernel
theorem l132_381 : xMth xg 132 381 = some (0, 172, 3, 7) := by decide +kernel
theorem l132_408 : xMth xg 132 408 = some (0, 183, 4, 7) := by decide +kernel
theorem l149_177 : xMth xg 149 177 = some (1, 142, 3, 0) := by decide +kernel
theorem l183_403 : xMth xg 183 403 = some (1, 149, 1, 0) := by decide +kernel
theorem l183_177 : xMth xg 183 177 = some (1, 142, 3, 0) := by decide +kernel
theorem l187_403 : xMth xg 187 403 = some (1, 149, 1, 0) := by decide +kernel
theorem l187_266 : xMth xg 187 266 = some (1, 153, 1, 0) := by decide +kernel
theorem l187_276 : xMth xg 187 276 = some (0, 148, 3, 7) := by decide +kernel
theorem l187_282 : xMth xg 187 282 = some (1, 147, 1, 0) := by decide +kernel
theorem l187_412 : xMth xg 187 412 = some (0, 152, 4, 7) := by decide +kernel
theorem l152_397 : xMth xg 152 397 = some (0, 161, 1, 7) := by decide +kernel
theorem l152_269 : xMth xg 152 269 = some (0, 195, 1, 7) := by decide +kernel
theorem l152_375 : xMth xg 152 375 = some (0, 121, 2, 7) := by decide +kernel
theorem l152_381 : xMth xg 152 381 = some (0, 172, 3, 7) := by decide +kernel
theorem l152_400 : xMth xg 152 400 = some (0, 162, 1, 7) := by decide +kernel
theorem l141_422 : xMth xg 141 422 = some (0, 136, 1, 7) := by decide +kernel
theorem l120_422 : xMth xg 120 422 = some (0, 136, 1, 7) := by decide +kernel
theorem l124_177 : xMth xg 124 177 = some (1, 142, 3, 0) := by decide +kernel
theorem l124_389 : xMth xg 124 389 = some (0, 192, 2, 7) := by decide +kernel
theorem l124_422 : xMth xg 124 422 = some (0, 136, 1, 7) := by decide +kernel
theorem l179_403 : xMth xg 179 403 = some (1, 149, 1, 0) := by decide +kernel
theorem l179_177 : xMth xg 179 177 = some (1, 142, 3, 0) := by decide +kernel
theorem l155_403 : xMth xg 155 403 = some (1, 149, 1, 0) := by decide +kernel
theorem l155_177 : xMth xg 155 177 = some (1, 142, 3, 0) := by decide +kernel
theorem l123_403 : xMth xg 123 403 = some (1, 149, 1, 0) := by decide +kernel
theorem l160_403 : xMth xg 160 403 = some (1, 149, 1, 0) := by decide +kernel
theorem l160_266 : xMth xg 160 266 = some (1, 153, 1, 0) := by decide +kernel
theorem l160_177 : xMth xg 160 177 = some (1, 142, 3, 0) := by decide +kernel
theorem l160_269 : xMth xg 160 269 = some (0, 195, 1, 7) := by decide +kernel
theorem i3_28 : xIns xg 3 28 = some (.iconst 2) := by decide +kernel
theorem i3_29 : xIns xg 3 29 = some (.goto 4) := by decide +kernel
theorem i3_33 : xIns xg 3 33 = some (.ireturn) := by decide +kernel
theorem m3 : (xMet xg 3).2.2 = (1, (some .int)) := by decide +kernel
theorem i3_0 : xIns xg 3 0 = some (.iload_n 0) := by decide +kernel
theorem i3_1 : xIns xg 3 1 = some (.ifCond .eq 13) := by decide +kernel
theorem i3_14 : xIns xg 3 14 = some (.iconst 0) := by decide +kernel
theorem i3_15 : xIns xg 3 15 = some (.ireturn) := by decide +kernel
theorem i3_4 : xIns xg 3 4 = some (.iload_n 0) := by decide +kernel
theorem i3_5 : xIns xg 3 5 = some (.iconst 1) := by decide +kernel
theorem i3_6 : xIns xg 3 6 = some (.if_icmp .eq 8) := by decide +kernel
theorem i3_9 : xIns xg 3 9 = some (.iload_n 0) := by decide +kernel
theorem i3_10 : xIns xg 3 10 = some (.iconst 2) := by decide +kernel
theorem i3_11 : xIns xg 3 11 = some (.if_icmp .ne 5) := by decide +kernel
theorem i3_16 : xIns xg 3 16 = some (.iload_n 0) := by decide +kernel
theorem i3_17 : xIns xg 3 17 = some (.bipush 6) := by decide +kernel
theorem i3_19 : xIns xg 3 19 = some (.if_icmp .eq 9) := by decide +kernel
theorem i3_22 : xIns xg 3 22 = some (.iload_n 0) := by decide +kernel
theorem i3_23 : xIns xg 3 23 = some (.bipush 7) := by decide +kernel
theorem i3_25 : xIns xg 3 25 = some (.if_icmp .ne 7) := by decide +kernel
theorem i3_32 : xIns xg 3 32 = some (.iconst 1) := by decide +kernel
def d_x0_rows_28 (N : Nat)  (s : St)  : Option Rs :=
  some (s, 2)
set_option maxHeartbeats 4000000 in
set_option maxRecDepth 100000 in
theorem c_x0_rows_28 {sc : xS} {d : Nat} {R : Rs} (N : Nat)  (hd : 0 ≤ d)   (s : St)  : d_x0_rows_28 N  s  = some R → vT sc d 3 28 [] [] s (fun r => r = qI R) := by
  unfold d_x0_rows_28
  refine vK 29 i3_28 rfl ?_
  refine vGo 33 i3_29 rfl ?_
  exact vRi i3_33 m3 rfl
def d_x0_rows (N : Nat)  (s : St) (a0 : Int) : Option Rs :=
  (if (w32 a0) = 0 then some (s, 0) else (if (w32 a0) = 1 then some (s, 0) else (if (w32 a0) = 2 then some (s, 0) else (if (w32 a0) = 6 then d_x0_rows_28 N  s  else (if (w32 a0) = 7 then d_x0_rows_28 N  s  else some (s, 1))))))
set_option maxHeartbeats 4000000 in
set_option maxRecDepth 100000 in
theorem c_x0_rows {sc : xS} {d : Nat} {R : Rs} (N : Nat)  (hd : 0 ≤ d)   (s : St) (a0 : Int) : d_x0_rows N  s a0 = some R → vT sc d 3 0 [(0, vi a0)] [] s (fun r => r = qI R) := by
  unfold d_x0_rows
  refine vLin 1 i3_0 rfl rfl ?_
  refine vZeq 14 4 rfl i3_1 rfl rfl ?_ ?_
  · refine vK 15 i3_14 rfl ?_
    exact vRi i3_15 m3 rfl
  · refine vLin 5 i3_4 rfl rfl ?_
    refine vK 6 i3_5 rfl ?_
    refine vCeq 14 9 rfl (show w32 1 = 1 from rfl) i3_6 rfl rfl ?_ ?_
    · refine vK 15 i3_14 rfl ?_
      exact vRi i3_15 m3 rfl
    · refine vLin 10 i3_9 rfl rfl ?_
      refine vK 11 i3_10 rfl ?_
      refine vCne 16 14 rfl (show w32 2 = 2 from rfl) i3_11 rfl rfl ?_ ?_
      · refine vLin 17 i3_16 rfl rfl ?_
        refine vKb 19 i3_17 (by decide) rfl ?_
        refine vCeq 28 22 rfl (show w32 6 = 6 from rfl) i3_19 rfl rfl ?_ ?_
        · exact fun hD => tLc [] (xNdk [] rfl (by decide)) (xNdk [0] rfl (by decide)) trivial (c_x0_rows_28 N  hd  s  hD)
        · refine vLin 23 i3_22 rfl rfl ?_
          refine vKb 25 i3_23 (by decide) rfl ?_
          refine vCne 32 28 rfl (show w32 7 = 7 from rfl) i3_25 rfl rfl ?_ ?_
          · refine vK 33 i3_32 rfl ?_
            exact vRi i3_33 m3 rfl
          · exact fun hD => tLc [] (xNdk [] rfl (by decide)) (xNdk [0] rfl (by decide)) trivial (c_x0_rows_28 N  hd  s  hD)
      · refine vK 15 i3_14 rfl ?_
        exact vRi i3_15 m3 rfl
theorem g203_38 : xSta xg 203 38 = some (vi 1) := by decide +kernel
theorem x203_15 : xExf xg 203 15 = some 1 := by decide +kernel
theorem i203_0 : xIns xg 203 0 = some (.getstatic 38) := by decide +kernel
theorem i203_3 : xIns xg 203 3 = some (.ifCond .eq 14) := by decide +kernel
theorem i203_6 : xIns xg 203 6 = some (.aload_n 0) := by decide +kernel
theorem i203_7 : xIns xg 203 7 = some (.getfield 15) := by decide +kernel
theorem i203_10 : xIns xg 203 10 = some (.ifCond .ne 7) := by decide +kernel
theorem i203_13 : xIns xg 203 13 = some (.iconst 1) := by decide +kernel
theorem i203_14 : xIns xg 203 14 = some (.goto 4) := by decide +kernel
theorem i203_18 : xIns xg 203 18 = some (.ireturn) := by decide +kernel
theorem m203 : (xMet xg 203).2.2 = (1, (some .boolean)) := by decide +kernel
def d_j0_isLatin1_aae02 (N : Nat)  (s : St) (e0 : Nat) : Option Rs :=
  if e0 = 1000 then none else if e0 % 2 = 1 ∧ e0 / 2 < 25 then some (s, 1) else none
set_option maxHeartbeats 4000000 in
set_option maxRecDepth 100000 in
theorem c_j0_isLatin1_aae02 {sc : xS} {d : Nat} {R : Rs} (N : Nat)  (hd : 0 ≤ d)   (s : St) (e0 : Nat) : d_j0_isLatin1_aae02 N  s e0 = some R → vT sc d 203 0 [(0, .retAddr e0)] [] s (fun r => r = qI R) := by
  unfold d_j0_isLatin1_aae02
  refine vGs 3 i203_0 g203_38 rfl ?_
  refine vZf0 17 6 i203_3 rfl (by decide) rfl ?_
  refine vLsn 7 i203_6 rfl rfl ?_
  refine vGfc 10 i203_7 x203_15 rfl ?_
  refine vZf0 17 13 i203_10 rfl (by decide) rfl ?_
  refine vK 14 i203_13 rfl ?_
  refine vGo 18 i203_14 rfl ?_
  exact vRi i203_18 m203 (by decide)
theorem i219_9 : xIns xg 219 9 = some (.aload_n 2) := by decide +kernel
theorem i219_0 : xIns xg 219 0 = some (.iload_n 0) := by decide +kernel
theorem i219_1 : xIns xg 219 1 = some (.ifCond .lt 8) := by decide +kernel
theorem i219_4 : xIns xg 219 4 = some (.iload_n 0) := by decide +kernel
theorem i219_5 : xIns xg 219 5 = some (.iload_n 1) := by decide +kernel
theorem i219_6 : xIns xg 219 6 = some (.if_icmp .lt 10) := by decide +kernel
theorem i219_16 : xIns xg 219 16 = some (.iload_n 0) := by decide +kernel
theorem i219_17 : xIns xg 219 17 = some (.ireturn) := by decide +kernel
theorem m219 : (xMet xg 219).2.2 = (3, (some .int)) := by decide +kernel
def d_j3_checkIndex_8e157_9 (N : Nat)  (s : St)  : Option Rs :=
  none
set_option maxHeartbeats 4000000 in
set_option maxRecDepth 100000 in
theorem c_j3_checkIndex_8e157_9 {sc : xS} {d : Nat} {R : Rs} (N : Nat)  (hd : 0 ≤ d)   (s : St)  : d_j3_checkIndex_8e157_9 N  s  = some R → vT sc d 219 9 [(2, .retAddr 1000)] [] s (fun r => r = qI R) := by
  unfold d_j3_checkIndex_8e157_9
  exact fun hD => by cases hD
def d_j3_checkIndex_8e157 (N : Nat)  (s : St) (a0 : Int) (a1 : Int) : Option Rs :=
  (if (w32 a0) < 0 then d_j3_checkIndex_8e157_9 N  s  else (if (w32 a0) < (w32 a1) then some (s, a0) else d_j3_checkIndex_8e157_9 N  s ))
set_option maxHeartbeats 4000000 in
set_option maxRecDepth 100000 in
theorem c_j3_checkIndex_8e157 {sc : xS} {d : Nat} {R : Rs} (N : Nat)  (hd : 0 ≤ d)   (s : St) (a0 : Int) (a1 : Int) : d_j3_checkIndex_8e157 N  s a0 a1 = some R → vT sc d 219 0 [(0, vi a0), (1, vi a1), (2, .retAddr 1000)] [] s (fun r => r = qI R) := by
  unfold d_j3_checkIndex_8e157
  refine vLin 1 i219_0 rfl rfl ?_
  refine vZlt 9 4 rfl i219_1 rfl rfl ?_ ?_
  · exact fun hD => tLc [(2, .retAddr 1000)] (xNdk [2] rfl (by decide)) (xNdk [0, 1, 2] rfl (by decide)) ⟨rfl, trivial⟩ (c_j3_checkIndex_8e157_9 N  hd  s  hD)
  · refine vLin 5 i219_4 rfl rfl ?_
    refine vLin 6 i219_5 rfl rfl ?_
    refine vClt 16 9 rfl rfl i219_6 rfl rfl ?_ ?_
    · refine vLin 17 i219_16 rfl rfl ?_
      exact vRi i219_17 m219 rfl
    · exact fun hD => tLc [(2, .retAddr 1000)] (xNdk [2] rfl (by decide)) (xNdk [0, 1, 2] rfl (by decide)) ⟨rfl, trivial⟩ (c_j3_checkIndex_8e157_9 N  hd  s  hD)
theorem g199_1053 : xSta xg 199 1053 = some (.retAddr 1000) := by decide +kernel
theorem i199_0 : xIns xg 199 0 = some (.iload_n 0) := by decide +kernel
theorem i199_1 : xIns xg 199 1 = some (.iload_n 1) := by decide +kernel
theorem i199_2 : xIns xg 199 2 = some (.getstatic 1053) := by decide +kernel
theorem i199_5 : xIns xg 199 5 = some (.invokestatic 1059) := by decide +kernel
theorem i199_8 : xIns xg 199 8 = some (.pop) := by decide +kernel
theorem i199_9 : xIns xg 199 9 = some (.return_) := by decide +kernel
theorem m199 : (xMet xg 199).2.2 = (2, none) := by decide +kernel
def d_j0_checkIndex_df160 (N : Nat)  (s : St) (a0 : Int) (a1 : Int) : Option Rs :=
  bI (d_j3_checkIndex_8e157 N  s a0 a1) fun s1 v2 => some (s1, 0)
set_option maxHeartbeats 4000000 in
set_option maxRecDepth 100000 in
theorem c_j0_checkIndex_df160 {sc : xS} {d : Nat} {R : Rs} (N : Nat)  (hd : 1 ≤ d)   (s : St) (a0 : Int) (a1 : Int) : d_j0_checkIndex_df160 N  s a0 a1 = some R → vT sc d 199 0 [(0, vi a0), (1, vi a1)] [] s (fun r => r = qV R) := by
  obtain ⟨d, rfl⟩ : ∃ d', d = d' + 1 := ⟨d - 1, by omega⟩
  unfold d_j0_checkIndex_df160
  refine vLin 1 i199_0 rfl rfl ?_
  refine vLin 2 i199_1 rfl rfl ?_
  refine vGs 5 i199_2 g199_1053 rfl ?_
  refine vCallI 8 [vi a0, vi a1, .retAddr 1000] [] [(0, vi a0), (1, vi a1), (2, .retAddr 1000)] i199_5 rfl (xlk1 l199_1059) (Or.inr (Or.inl rfl)) m219 rfl rfl (Nat.le_of_ble_eq_true rfl) (Nat.le_of_ble_eq_true rfl) (Nat.le_of_ble_eq_true rfl) rfl rfl rfl (fun R1 => c_j3_checkIndex_8e157 N   (by omega) s a0 a1) (fun s1 v2 => ?_)
  refine vD 9 i199_8 rfl rfl rfl ?_
  exact vR0 i199_9 m199
theorem i206_0 : xIns xg 206 0 = some (.iload_n 1) := by decide +kernel
theorem i206_1 : xIns xg 206 1 = some (.aload_n 0) := by decide +kernel
theorem i206_2 : xIns xg 206 2 = some (.arraylength) := by decide +kernel
theorem i206_3 : xIns xg 206 3 = some (.invokestatic 9) := by decide +kernel
theorem i206_6 : xIns xg 206 6 = some (.aload_n 0) := by decide +kernel
theorem i206_7 : xIns xg 206 7 = some (.iload_n 1) := by decide +kernel
theorem i206_8 : xIns xg 206 8 = some (.baload) := by decide +kernel
theorem i206_9 : xIns xg 206 9 = some (.sipush 255) := by decide +kernel
theorem i206_12 : xIns xg 206 12 = some (.iand) := by decide +kernel
theorem i206_13 : xIns xg 206 13 = some (.i2c) := by decide +kernel
theorem i206_14 : xIns xg 206 14 = some (.ireturn) := by decide +kernel
theorem m206 : (xMet xg 206).2.2 = (2, (some .char)) := by decide +kernel
def d_j1_charAt_3b067 (N : Nat)  (s : St) (b0 : Nat) (a1 : Int) : Option Rs :=
  if b0 = 1000 then none else if bOk b0 then bV (d_j0_checkIndex_df160 N  s a1 ((bLen b0 : Nat) : Int)) fun s1 => if b0 = 1000 then none else if bOk b0 ∧ 0 ≤ (w32 a1) ∧ (w32 a1) < ((bLen b0 : Nat) : Int) then (if narrow .char (vi (c16 (and32 (bAt b0 (Int.toNat (w32 a1))) 255))) = vi (c16 (and32 (bAt b0 (Int.toNat (w32 a1))) 255)) then some (s1, (c16 (and32 (bAt b0 (Int.toNat (w32 a1))) 255))) else none) else none else none
set_option maxHeartbeats 4000000 in
set_option maxRecDepth 100000 in
theorem c_j1_charAt_3b067 {sc : xS} {d : Nat} {R : Rs} (N : Nat)  (hd : 2 ≤ d)   (s : St) (b0 : Nat) (a1 : Int) : d_j1_charAt_3b067 N  s b0 a1 = some R → vT sc d 206 0 [(0, .retAddr b0), (1, vi a1)] [] s (fun r => r = qI R) := by
  obtain ⟨d, rfl⟩ : ∃ d', d = d' + 1 := ⟨d - 1, by omega⟩
  unfold d_j1_charAt_3b067
  refine vLin 1 i206_0 rfl rfl ?_
  refine vLsn 2 i206_1 rfl rfl ?_
  refine vBln 3 i206_2 rfl ?_
  refine vCallV 6 [vi a1, vi ((bLen b0 : Nat) : Int)] [] [(0, vi a1), (1, vi ((bLen b0 : Nat) : Int))] i206_3 rfl (xlk1 l206_9) (Or.inr (Or.inl rfl)) m199 rfl rfl (Nat.le_of_ble_eq_true rfl) (Nat.le_of_ble_eq_true rfl) (Nat.le_of_ble_eq_true rfl) rfl rfl rfl (fun R1 => c_j0_checkIndex_df160 N   (by omega) s a1 ((bLen b0 : Nat) : Int)) (fun s1 => ?_)
  refine vLsn 7 i206_6 rfl rfl ?_
  refine vLin 8 i206_7 rfl rfl ?_
  refine vBalS 9 rfl i206_8 rfl ?_
  refine vKs 12 i206_9 (by decide) rfl ?_
  refine vIand 13 i206_12 rfl ?_
  refine vI2c 14 i206_13 rfl ?_
  exact vRt i206_14 m206
theorem x197_9 : xExf xg 197 9 = some 0 := by decide +kernel
theorem i197_0 : xIns xg 197 0 = some (.aload_n 0) := by decide +kernel
theorem i197_1 : xIns xg 197 1 = some (.invokevirtual 492) := by decide +kernel
theorem i197_4 : xIns xg 197 4 = some (.ifCond .eq 12) := by decide +kernel
theorem i197_16 : xIns xg 197 16 = some (.aload_n 0) := by decide +kernel
theorem i197_17 : xIns xg 197 17 = some (.getfield 9) := by decide +kernel
theorem i197_20 : xIns xg 197 20 = some (.iload_n 1) := by decide +kernel
theorem i197_21 : xIns xg 197 21 = some (.invokestatic 498) := by decide +kernel
theorem i197_7 : xIns xg 197 7 = some (.aload_n 0) := by decide +kernel
theorem i197_8 : xIns xg 197 8 = some (.getfield 9) := by decide +kernel
theorem i197_11 : xIns xg 197 11 = some (.iload_n 1) := by decide +kernel
theorem i197_12 : xIns xg 197 12 = some (.invokestatic 495) := by decide +kernel
theorem i197_15 : xIns xg 197 15 = some (.ireturn) := by decide +kernel
theorem m197 : (xMet xg 197).2.2 = (2, (some .char)) := by decide +kernel
def d_j0_charAt_5068e (N : Nat)  (s : St) (e0 : Nat) (a0 : Int) : Option Rs :=
  if e0 = 1000 then none else if e0 % 2 = 1 ∧ e0 / 2 < 25 then bI (d_j0_isLatin1_aae02 N  s e0) fun s1 v2 => (if (w32 v2) = 0 then if e0 = 1000 then none else if e0 % 2 = 1 ∧ e0 / 2 < 25 then none else none else if e0 = 1000 then none else if e0 % 2 = 1 ∧ e0 / 2 < 25 then bI (d_j1_charAt_3b067 N  s1 (2 * (e0 / 2) + 2) a0) fun s3 v4 => (if narrow .char (vi v4) = vi v4 then some (s3, v4) else none) else none) else none
set_option maxHeartbeats 4000000 in
set_option maxRecDepth 100000 in
theorem c_j0_charAt_5068e {sc : xS} {d : Nat} {R : Rs} (N : Nat)  (hd : 3 ≤ d)   (s : St) (e0 : Nat) (a0 : Int) : d_j0_charAt_5068e N  s e0 a0 = some R → vT sc d 197 0 [(0, .retAddr e0), (1, vi a0)] [] s (fun r => r = qI R) := by
  obtain ⟨d, rfl⟩ : ∃ d', d = d' + 1 := ⟨d - 1, by omega⟩
  unfold d_j0_charAt_5068e
  refine vLsn 1 i197_0 rfl rfl ?_
  refine vX98 (e := e0) (fun hx98 => ?_)
  refine vCallI 4 [.retAddr e0] [] [(0, .retAddr e0)] i197_1 rfl (xlk0 l197_492) (Or.inl rfl) m203 rfl rfl (Nat.le_of_ble_eq_true rfl) (Nat.le_of_ble_eq_true rfl) (Nat.le_of_ble_eq_true rfl) (xh98 hx98) rfl rfl (fun R1 => c_j0_isLatin1_aae02 N   (by omega) s e0) (fun s1 v2 => ?_)
  refine vZeq 16 7 rfl i197_4 rfl rfl ?_ ?_
  · refine vLsn 17 i197_16 rfl rfl ?_
    refine vGfv 20 i197_17 x197_9 rfl ?_
    refine vLin 21 i197_20 rfl rfl ?_
    exact fun hD => by cases hD
  · refine vLsn 8 i197_7 rfl rfl ?_
    refine vGfv 11 i197_8 x197_9 rfl ?_
    refine vLin 12 i197_11 rfl rfl ?_
    refine vCallI 15 [.retAddr (2 * (e0 / 2) + 2), vi a0] [] [(0, .retAddr (2 * (e0 / 2) + 2)), (1, vi a0)] i197_12 rfl (xlk1 l197_495) (Or.inr (Or.inl rfl)) m206 rfl rfl (Nat.le_of_ble_eq_true rfl) (Nat.le_of_ble_eq_true rfl) (Nat.le_of_ble_eq_true rfl) rfl rfl rfl (fun R1 => c_j1_charAt_3b067 N   (by omega) s1 (2 * (e0 / 2) + 2) a0) (fun s3 v4 => ?_)
    exact vRt i197_15 m197
theorem g200_38 : xSta xg 200 38 = some (vi 1) := by decide +kernel
theorem x200_15 : xExf xg 200 15 = some 1 := by decide +kernel
theorem i200_0 : xIns xg 200 0 = some (.getstatic 38) := by decide +kernel
theorem i200_3 : xIns xg 200 3 = some (.ifCond .eq 10) := by decide +kernel
theorem i200_6 : xIns xg 200 6 = some (.aload_n 0) := by decide +kernel
theorem i200_7 : xIns xg 200 7 = some (.getfield 15) := by decide +kernel
theorem i200_10 : xIns xg 200 10 = some (.goto 4) := by decide +kernel
theorem i200_14 : xIns xg 200 14 = some (.ireturn) := by decide +kernel
theorem m200 : (xMet xg 200).2.2 = (1, (some .byte)) := by decide +kernel
def d_j0_coder_7d493 (N : Nat)  (s : St) (e0 : Nat) : Option Rs :=
  if e0 = 1000 then none else if e0 % 2 = 1 ∧ e0 / 2 < 25 then some (s, 0) else none
set_option maxHeartbeats 4000000 in
set_option maxRecDepth 100000 in
theorem c_j0_coder_7d493 {sc : xS} {d : Nat} {R : Rs} (N : Nat)  (hd : 0 ≤ d)   (s : St) (e0 : Nat) : d_j0_coder_7d493 N  s e0 = some R → vT sc d 200 0 [(0, .retAddr e0)] [] s (fun r => r = qI R) := by
  unfold d_j0_coder_7d493
  refine vGs 3 i200_0 g200_38 rfl ?_
  refine vZf0 13 6 i200_3 rfl (by decide) rfl ?_
  refine vLsn 7 i200_6 rfl rfl ?_
  refine vGfc 10 i200_7 x200_15 rfl ?_
  refine vGo 14 i200_10 rfl ?_
  exact vRi i200_14 m200 (by decide)
theorem x204_9 : xExf xg 204 9 = some 0 := by decide +kernel
theorem i204_0 : xIns xg 204 0 = some (.aload_n 0) := by decide +kernel
theorem i204_1 : xIns xg 204 1 = some (.getfield 9) := by decide +kernel
theorem i204_4 : xIns xg 204 4 = some (.arraylength) := by decide +kernel
theorem i204_5 : xIns xg 204 5 = some (.aload_n 0) := by decide +kernel
theorem i204_6 : xIns xg 204 6 = some (.invokevirtual 335) := by decide +kernel
theorem i204_9 : xIns xg 204 9 = some (.ishr) := by decide +kernel
theorem i204_10 : xIns xg 204 10 = some (.ireturn) := by decide +kernel
theorem m204 : (xMet xg 204).2.2 = (1, (some .int)) := by decide +kernel
def d_j0_length_8abf5 (N : Nat)  (s : St) (e0 : Nat) : Option Rs :=
  if e0 = 1000 then none else if e0 % 2 = 1 ∧ e0 / 2 < 25 then if bOk (2 * (e0 / 2) + 2) then if e0 = 1000 then none else if e0 % 2 = 1 ∧ e0 / 2 < 25 then bI (d_j0_coder_7d493 N  s e0) fun s1 v2 => some (s1, (shr32 ((bLen (2 * (e0 / 2) + 2) : Nat) : Int) v2)) else none else none else none
set_option maxHeartbeats 4000000 in
set_option maxRecDepth 100000 in
theorem c_j0_length_8abf5 {sc : xS} {d : Nat} {R : Rs} (N : Nat)  (hd : 1 ≤ d)   (s : St) (e0 : Nat) : d_j0_length_8abf5 N  s e0 = some R → vT sc d 204 0 [(0, .retAddr e0)] [] s (fun r => r = qI R) := by
  obtain ⟨d, rfl⟩ : ∃ d', d = d' + 1 := ⟨d - 1, by omega⟩
  unfold d_j0_length_8abf5
  refine vLsn 1 i204_0 rfl rfl ?_
  refine vGfv 4 i204_1 x204_9 rfl ?_
  refine vBln 5 i204_4 rfl ?_
  refine vLsn 6 i204_5 rfl rfl ?_
  refine vX98 (e := e0) (fun hx98 => ?_)
  refine vCallI 9 [.retAddr e0] [vi ((bLen (2 * (e0 / 2) + 2) : Nat) : Int)] [(0, .retAddr e0)] i204_6 rfl (xlk0 l204_335) (Or.inl rfl) m200 rfl rfl (Nat.le_of_ble_eq_true rfl) (Nat.le_of_ble_eq_true rfl) (Nat.le_of_ble_eq_true rfl) (xh98 hx98) rfl rfl (fun R1 => c_j0_coder_7d493 N   (by omega) s e0) (fun s1 v2 => ?_)
  refine vIshr 10 i204_9 rfl ?_
  exact vRi i204_10 m204 rfl
theorem i4_0 : xIns xg 4 0 = some (.iload_n 0) := by decide +kernel
theorem i4_1 : xIns xg 4 1 = some (.tableswitch 100 1 13 #[67, 70, 73, 76, 79, 82, 100, 85, 88, 91, 100, 94, 97]) := by decide +kernel
theorem i4_68 : xIns xg 4 68 = some (.ldc 37) := by decide +kernel
theorem s4_37 : xStr xg 4 37 = some 15 := by decide +kernel
theorem sn4_37 : xCon xg 4 37 = none := by decide +kernel
theorem i4_70 : xIns xg 4 70 = some (.areturn) := by decide +kernel
theorem m4 : (xMet xg 4).2.2 = (1, (some (.object "java/lang/String"))) := by decide +kernel
theorem i4_71 : xIns xg 4 71 = some (.ldc 39) := by decide +kernel
theorem s4_39 : xStr xg 4 39 = some 16 := by decide +kernel
theorem sn4_39 : xCon xg 4 39 = none := by decide +kernel
theorem i4_73 : xIns xg 4 73 = some (.areturn) := by decide +kernel
theorem i4_74 : xIns xg 4 74 = some (.ldc 41) := by decide +kernel
theorem s4_41 : xStr xg 4 41 = some 17 := by decide +kernel
theorem sn4_41 : xCon xg 4 41 = none := by decide +kernel
theorem i4_76 : xIns xg 4 76 = some (.areturn) := by decide +kernel
theorem i4_77 : xIns xg 4 77 = some (.ldc 43) := by decide +kernel
theorem s4_43 : xStr xg 4 43 = some 18 := by decide +kernel
theorem sn4_43 : xCon xg 4 43 = none := by decide +kernel
theorem i4_79 : xIns xg 4 79 = some (.areturn) := by decide +kernel
theorem i4_80 : xIns xg 4 80 = some (.ldc 43) := by decide +kernel
theorem i4_82 : xIns xg 4 82 = some (.areturn) := by decide +kernel
theorem i4_83 : xIns xg 4 83 = some (.ldc 45) := by decide +kernel
theorem s4_45 : xStr xg 4 45 = some 19 := by decide +kernel
theorem sn4_45 : xCon xg 4 45 = none := by decide +kernel
theorem i4_85 : xIns xg 4 85 = some (.areturn) := by decide +kernel
theorem i4_86 : xIns xg 4 86 = some (.ldc 47) := by decide +kernel
theorem s4_47 : xStr xg 4 47 = some 20 := by decide +kernel
theorem sn4_47 : xCon xg 4 47 = none := by decide +kernel
theorem i4_88 : xIns xg 4 88 = some (.areturn) := by decide +kernel
theorem i4_89 : xIns xg 4 89 = some (.ldc 47) := by decide +kernel
theorem i4_91 : xIns xg 4 91 = some (.areturn) := by decide +kernel
theorem i4_92 : xIns xg 4 92 = some (.ldc 45) := by decide +kernel
theorem i4_94 : xIns xg 4 94 = some (.areturn) := by decide +kernel
theorem i4_95 : xIns xg 4 95 = some (.ldc 49) := by decide +kernel
theorem s4_49 : xStr xg 4 49 = some 21 := by decide +kernel
theorem sn4_49 : xCon xg 4 49 = none := by decide +kernel
theorem i4_97 : xIns xg 4 97 = some (.areturn) := by decide +kernel
theorem i4_98 : xIns xg 4 98 = some (.ldc 51) := by decide +kernel
theorem s4_51 : xStr xg 4 51 = some 22 := by decide +kernel
theorem sn4_51 : xCon xg 4 51 = none := by decide +kernel
theorem i4_100 : xIns xg 4 100 = some (.areturn) := by decide +kernel
theorem i4_101 : xIns xg 4 101 = some (.ldc 35) := by decide +kernel
theorem s4_35 : xStr xg 4 35 = some 14 := by decide +kernel
theorem sn4_35 : xCon xg 4 35 = none := by decide +kernel
theorem i4_103 : xIns xg 4 103 = some (.areturn) := by decide +kernel
def d_x0_shape (N : Nat)  (s : St) (a0 : Int) : Option Rs :=
  (if (w32 a0) = 1 then some (s, (((2 * 15 + 1) : Nat) : Int)) else (if (w32 a0) = 2 then some (s, (((2 * 16 + 1) : Nat) : Int)) else (if (w32 a0) = 3 then some (s, (((2 * 17 + 1) : Nat) : Int)) else (if (w32 a0) = 4 then some (s, (((2 * 18 + 1) : Nat) : Int)) else (if (w32 a0) = 5 then some (s, (((2 * 18 + 1) : Nat) : Int)) else (if (w32 a0) = 6 then some (s, (((2 * 19 + 1) : Nat) : Int)) else (if (w32 a0) = 8 then some (s, (((2 * 20 + 1) : Nat) : Int)) else (if (w32 a0) = 9 then some (s, (((2 * 20 + 1) : Nat) : Int)) else (if (w32 a0) = 10 then some (s, (((2 * 19 + 1) : Nat) : Int)) else (if (w32 a0) = 12 then some (s, (((2 * 21 + 1) : Nat) : Int)) else (if (w32 a0) = 13 then some (s, (((2 * 22 + 1) : Nat) : Int)) else (if (w32 a0) = 7 then some (s, (((2 * 14 + 1) : Nat) : Int)) else (if (w32 a0) = 11 then some (s, (((2 * 14 + 1) : Nat) : Int)) else some (s, (((2 * 14 + 1) : Nat) : Int)))))))))))))))
set_option maxHeartbeats 4000000 in
set_option maxRecDepth 100000 in
theorem c_x0_shape {sc : xS} {d : Nat} {R : Rs} (N : Nat)  (hd : 0 ≤ d)   (s : St) (a0 : Int) : d_x0_shape N  s a0 = some R → vT sc d 4 0 [(0, vi a0)] [] s (fun r => r = qS R) := by
  unfold d_x0_shape
  refine vLin 1 i4_0 rfl rfl ?_
  refine vSw 68 (v := 1) rfl i4_1 rfl rfl ?_ (fun h1 => ?_)
  · refine vLdS 70 i4_68 sn4_37 s4_37 rfl ?_
    exact vRa (by decide) i4_70 m4
  refine vSw 71 (v := 2) rfl i4_1 rfl rfl ?_ (fun h2 => ?_)
  · refine vLdS 73 i4_71 sn4_39 s4_39 rfl ?_
    exact vRa (by decide) i4_73 m4
  refine vSw 74 (v := 3) rfl i4_1 rfl rfl ?_ (fun h3 => ?_)
  · refine vLdS 76 i4_74 sn4_41 s4_41 rfl ?_
    exact vRa (by decide) i4_76 m4
  refine vSw 77 (v := 4) rfl i4_1 rfl rfl ?_ (fun h4 => ?_)
  · refine vLdS 79 i4_77 sn4_43 s4_43 rfl ?_
    exact vRa (by decide) i4_79 m4
  refine vSw 80 (v := 5) rfl i4_1 rfl rfl ?_ (fun h5 => ?_)
  · refine vLdS 82 i4_80 sn4_43 s4_43 rfl ?_
    exact vRa (by decide) i4_82 m4
  refine vSw 83 (v := 6) rfl i4_1 rfl rfl ?_ (fun h6 => ?_)
  · refine vLdS 85 i4_83 sn4_45 s4_45 rfl ?_
    exact vRa (by decide) i4_85 m4
  refine vSw 86 (v := 8) rfl i4_1 rfl rfl ?_ (fun h8 => ?_)
  · refine vLdS 88 i4_86 sn4_47 s4_47 rfl ?_
    exact vRa (by decide) i4_88 m4
  refine vSw 89 (v := 9) rfl i4_1 rfl rfl ?_ (fun h9 => ?_)
  · refine vLdS 91 i4_89 sn4_47 s4_47 rfl ?_
    exact vRa (by decide) i4_91 m4
  refine vSw 92 (v := 10) rfl i4_1 rfl rfl ?_ (fun h10 => ?_)
  · refine vLdS 94 i4_92 sn4_45 s4_45 rfl ?_
    exact vRa (by decide) i4_94 m4
  refine vSw 95 (v := 12) rfl i4_1 rfl rfl ?_ (fun h12 => ?_)
  · refine vLdS 97 i4_95 sn4_49 s4_49 rfl ?_
    exact vRa (by decide) i4_97 m4
  refine vSw 98 (v := 13) rfl i4_1 rfl rfl ?_ (fun h13 => ?_)
  · refine vLdS 100 i4_98 sn4_51 s4_51 rfl ?_
    exact vRa (by decide) i4_100 m4
  refine vSw 101 (v := 7) rfl i4_1 rfl rfl ?_ (fun h7 => ?_)
  · refine vLdS 103 i4_101 sn4_35 s4_35 rfl ?_
    exact vRa (by decide) i4_103 m4
  refine vSw 101 (v := 11) rfl i4_1 rfl rfl ?_ (fun h11 => ?_)
  · refine vLdS 103 i4_101 sn4_35 s4_35 rfl ?_
    exact vRa (by decide) i4_103 m4
  refine vSwD 101 i4_1 (by omega) rfl ?_
  refine vLdS 103 i4_101 sn4_35 s4_35 rfl ?_
  exact vRa (by decide) i4_103 m4
theorem i205_0 : xIns xg 205 0 = some (.iload_n 0) := by decide +kernel
theorem i205_1 : xIns xg 205 1 = some (.ifCond .lt 14) := by decide +kernel
theorem i205_15 : xIns xg 205 15 = some (.iconst 0) := by decide +kernel
theorem i205_16 : xIns xg 205 16 = some (.ireturn) := by decide +kernel
theorem m205 : (xMet xg 205).2.2 = (1, (some .boolean)) := by decide +kernel
theorem i205_4 : xIns xg 205 4 = some (.iload_n 0) := by decide +kernel
theorem i205_5 : xIns xg 205 5 = some (.sipush 255) := by decide +kernel
theorem i205_8 : xIns xg 205 8 = some (.if_icmp .gt 7) := by decide +kernel
theorem i205_11 : xIns xg 205 11 = some (.iconst 1) := by decide +kernel
theorem i205_12 : xIns xg 205 12 = some (.goto 4) := by decide +kernel
def d_j1_canEncode_9a6ad (N : Nat)  (s : St) (a0 : Int) : Option Rs :=
  (if (w32 a0) < 0 then some (s, 0) else (if 255 < (w32 a0) then some (s, 0) else some (s, 1)))
set_option maxHeartbeats 4000000 in
set_option maxRecDepth 100000 in
theorem c_j1_canEncode_9a6ad {sc : xS} {d : Nat} {R : Rs} (N : Nat)  (hd : 0 ≤ d)   (s : St) (a0 : Int) : d_j1_canEncode_9a6ad N  s a0 = some R → vT sc d 205 0 [(0, vi a0)] [] s (fun r => r = qI R) := by
  unfold d_j1_canEncode_9a6ad
  refine vLin 1 i205_0 rfl rfl ?_
  refine vZlt 15 4 rfl i205_1 rfl rfl ?_ ?_
  · refine vK 16 i205_15 rfl ?_
    exact vRi i205_16 m205 (by decide)
  · refine vLin 5 i205_4 rfl rfl ?_
    refine vKs 8 i205_5 (by decide) rfl ?_
    refine vCgt 15 11 rfl (show w32 255 = 255 from rfl) i205_8 rfl rfl ?_ ?_
    · refine vK 16 i205_15 rfl ?_
      exact vRi i205_16 m205 (by decide)
    · refine vK 12 i205_11 rfl ?_
      refine vGo 16 i205_12 rfl ?_
      exact vRi i205_16 m205 (by decide)
theorem i207_7 : xIns xg 207 7 = some (.iload 5) := by decide +kernel
theorem i207_9 : xIns xg 207 9 = some (.iload_n 3) := by decide +kernel
theorem i207_10 : xIns xg 207 10 = some (.if_icmp .ge 21) := by decide +kernel
theorem i207_31 : xIns xg 207 31 = some (.iconst (-1)) := by decide +kernel
theorem i207_32 : xIns xg 207 32 = some (.ireturn) := by decide +kernel
theorem m207 : (xMet xg 207).2.2 = (6, (some .int)) := by decide +kernel
theorem i207_13 : xIns xg 207 13 = some (.aload_n 0) := by decide +kernel
theorem i207_14 : xIns xg 207 14 = some (.iload 5) := by decide +kernel
theorem i207_16 : xIns xg 207 16 = some (.baload) := by decide +kernel
theorem i207_17 : xIns xg 207 17 = some (.iload 4) := by decide +kernel
theorem i207_19 : xIns xg 207 19 = some (.if_icmp .ne 6) := by decide +kernel
theorem i207_25 : xIns xg 207 25 = some (.iinc 5 1) := by decide +kernel
theorem i207_28 : xIns xg 207 28 = some (.goto (-21)) := by decide +kernel
theorem i207_22 : xIns xg 207 22 = some (.iload 5) := by decide +kernel
theorem i207_24 : xIns xg 207 24 = some (.ireturn) := by decide +kernel
theorem i207_0 : xIns xg 207 0 = some (.iload_n 1) := by decide +kernel
theorem i207_1 : xIns xg 207 1 = some (.i2b) := by decide +kernel
theorem i207_2 : xIns xg 207 2 = some (.istore 4) := by decide +kernel
theorem i207_4 : xIns xg 207 4 = some (.iload_n 2) := by decide +kernel
theorem i207_5 : xIns xg 207 5 = some (.istore 5) := by decide +kernel
def d_j1_indexOfChar_4cfef_7 (N : Nat)  (k7 : St → Nat → Int → Int → Int → Option Rs) (s : St) (y0 : Nat) (x3 : Int) (x4 : Int) (x5 : Int) : Option Rs :=
  (if (w32 x5) < (w32 x3) then if y0 = 1000 then none else if bOk y0 ∧ 0 ≤ (w32 x5) ∧ (w32 x5) < ((bLen y0 : Nat) : Int) then (if (w32 (bAt y0 (Int.toNat (w32 x5)))) = (w32 x4) then some (s, x5) else bd (x5 + 1) fun v1 => k7 s y0 x3 x4 v1) else none else some (s, (-1)))
def d_j1_indexOfChar_4cfef_7L (N : Nat)  : Nat → St → Nat → Int → Int → Int → Option Rs
  | 0 => fun _ _ _ _ _ => none
  | n + 1 => d_j1_indexOfChar_4cfef_7 N  (d_j1_indexOfChar_4cfef_7L N  n)
set_option maxHeartbeats 4000000 in
set_option maxRecDepth 100000 in
theorem c_j1_indexOfChar_4cfef_7 {sc : xS} {d : Nat} {R : Rs} (N : Nat)  (hd : 0 ≤ d)   (k7 : St → Nat → Int → Int → Int → Option Rs) (hk7 : ∀ (s : St) (y0 : Nat) (x3 : Int) (x4 : Int) (x5 : Int), k7 s y0 x3 x4 x5 = some R → vT sc d 207 7 [(0, .retAddr y0), (3, vi x3), (4, vi x4), (5, vi x5)] [] s (fun r => r = qI R)) (s : St) (y0 : Nat) (x3 : Int) (x4 : Int) (x5 : Int) : d_j1_indexOfChar_4cfef_7 N  k7 s y0 x3 x4 x5 = some R → vT sc d 207 7 [(0, .retAddr y0), (3, vi x3), (4, vi x4), (5, vi x5)] [] s (fun r => r = qI R) := by
  unfold d_j1_indexOfChar_4cfef_7
  refine vLi 9 i207_7 rfl rfl ?_
  refine vLin 10 i207_9 rfl rfl ?_
  refine vCge 31 13 rfl rfl i207_10 rfl rfl ?_ ?_
  · refine vK 32 i207_31 rfl ?_
    exact vRi i207_32 m207 rfl
  · refine vLsn 14 i207_13 rfl rfl ?_
    refine vLi 16 i207_14 rfl rfl ?_
    refine vBalS 17 rfl i207_16 rfl ?_
    refine vLi 19 i207_17 rfl rfl ?_
    refine vCne 25 22 rfl rfl i207_19 rfl rfl ?_ ?_
    · refine vInc 28 (fun v1 => [(5, vi v1), (0, .retAddr y0), (3, vi x3), (4, vi x4)]) i207_25 m207 (by decide) rfl (fun _ => rfl) rfl (fun v1 => ?_)
      refine vGo 7 i207_28 rfl ?_
      exact fun hD => tLc [(0, .retAddr y0), (3, vi x3), (4, vi x4), (5, vi v1)] (xNdk [0, 3, 4, 5] rfl (by decide)) (xNdk [5, 0, 3, 4] rfl (by decide)) ⟨rfl, rfl, rfl, rfl, trivial⟩ (hk7 s y0 x3 x4 v1 hD)
    · refine vLi 24 i207_22 rfl rfl ?_
      exact vRi i207_24 m207 rfl
theorem c_j1_indexOfChar_4cfef_7L {sc : xS} {d : Nat} {R : Rs} (N : Nat)  (hd : 0 ≤ d)   : ∀ (n : Nat) (s : St) (y0 : Nat) (x3 : Int) (x4 : Int) (x5 : Int), d_j1_indexOfChar_4cfef_7L N  n s y0 x3 x4 x5 = some R → vT sc d 207 7 [(0, .retAddr y0), (3, vi x3), (4, vi x4), (5, vi x5)] [] s (fun r => r = qI R) := by
  intro n
  induction n with
  | zero => intro s y0 x3 x4 x5 hD; cases hD
  | succ n ih => intro s y0 x3 x4 x5 hD; exact c_j1_indexOfChar_4cfef_7 N  hd  _ ih s y0 x3 x4 x5 hD
def d_j1_indexOfChar_4cfef (N : Nat)  (s : St) (b0 : Nat) (a1 : Int) (a2 : Int) (a3 : Int) : Option Rs :=
  bd (w8 a1) fun v2 => d_j1_indexOfChar_4cfef_7L N  N s b0 a3 v2 a2
set_option maxHeartbeats 4000000 in
set_option maxRecDepth 100000 in
theorem c_j1_indexOfChar_4cfef {sc : xS} {d : Nat} {R : Rs} (N : Nat)  (hd : 0 ≤ d)   (s : St) (b0 : Nat) (a1 : Int) (a2 : Int) (a3 : Int) : d_j1_indexOfChar_4cfef N  s b0 a1 a2 a3 = some R → vT sc d 207 0 [(0, .retAddr b0), (1, vi a1), (2, vi a2), (3, vi a3)] [] s (fun r => r = qI R) := by
  unfold d_j1_indexOfChar_4cfef
  refine vLin 1 i207_0 rfl rfl ?_
  refine vI2b 2 i207_1 rfl ?_
  refine vSi 4 (fun v2 => [(4, vi v2), (0, .retAddr b0), (1, vi a1), (2, vi a2), (3, vi a3)]) i207_2 m207 (by decide) (fun v2 => (rfl : xst1 [(0, .retAddr b0), (1, vi a1), (2, vi a2), (3, vi a3)] 4 (vi v2) = [(4, vi v2), (0, .retAddr b0), (1, vi a1), (2, vi a2), (3, vi a3)])) rfl (fun v2 => ?_)
  refine vLin 5 i207_4 rfl rfl ?_
  refine vSi0 7 [(5, vi a2), (4, vi v2), (0, .retAddr b0), (1, vi a1), (2, vi a2), (3, vi a3)] i207_5 m207 (by decide) rfl rfl ?_
  exact fun hD => tLc [(0, .retAddr b0), (3, vi a3), (4, vi v2), (5, vi a2)] (xNdk [0, 3, 4, 5] rfl (by decide)) (xNdk [5, 4, 0, 1, 2, 3] rfl (by decide)) ⟨rfl, rfl, rfl, rfl, trivial⟩ (c_j1_indexOfChar_4cfef_7L N  hd  N s b0 a3 v2 a2 hD)
theorem i208_0 : xIns xg 208 0 = some (.iload_n 1) := by decide +kernel
theorem i208_1 : xIns xg 208 1 = some (.invokestatic 88) := by decide +kernel
theorem i208_4 : xIns xg 208 4 = some (.ifCond .ne 5) := by decide +kernel
theorem i208_9 : xIns xg 208 9 = some (.iload_n 2) := by decide +kernel
theorem i208_10 : xIns xg 208 10 = some (.iconst 0) := by decide +kernel
theorem i208_11 : xIns xg 208 11 = some (.invokestatic 92) := by decide +kernel
theorem i208_14 : xIns xg 208 14 = some (.istore_n 2) := by decide +kernel
theorem m208 : (xMet xg 208).2.2 = (4, (some .int)) := by decide +kernel
theorem i208_15 : xIns xg 208 15 = some (.iload_n 3) := by decide +kernel
theorem i208_16 : xIns xg 208 16 = some (.aload_n 0) := by decide +kernel
theorem i208_17 : xIns xg 208 17 = some (.arraylength) := by decide +kernel
theorem i208_18 : xIns xg 208 18 = some (.invokestatic 38) := by decide +kernel
theorem i208_21 : xIns xg 208 21 = some (.istore_n 3) := by decide +kernel
theorem i208_22 : xIns xg 208 22 = some (.iload_n 2) := by decide +kernel
theorem i208_23 : xIns xg 208 23 = some (.iload_n 3) := by decide +kernel
theorem i208_24 : xIns xg 208 24 = some (.if_icmp .lt 5) := by decide +kernel
theorem i208_29 : xIns xg 208 29 = some (.aload_n 0) := by decide +kernel
theorem i208_30 : xIns xg 208 30 = some (.iload_n 1) := by decide +kernel
theorem i208_31 : xIns xg 208 31 = some (.iload_n 2) := by decide +kernel
theorem i208_32 : xIns xg 208 32 = some (.iload_n 3) := by decide +kernel
theorem i208_33 : xIns xg 208 33 = some (.invokestatic 95) := by decide +kernel
theorem i208_36 : xIns xg 208 36 = some (.ireturn) := by decide +kernel
theorem i208_27 : xIns xg 208 27 = some (.iconst (-1)) := by decide +kernel
theorem i208_28 : xIns xg 208 28 = some (.ireturn) := by decide +kernel
theorem i208_7 : xIns xg 208 7 = some (.iconst (-1)) := by decide +kernel
theorem i208_8 : xIns xg 208 8 = some (.ireturn) := by decide +kernel
def d_j1_indexOf_4cfef (N : Nat)  (s : St) (b0 : Nat) (a1 : Int) (a2 : Int) (a3 : Int) : Option Rs :=
  bI (d_j1_canEncode_9a6ad N  s a1) fun s1 v2 => (if (w32 v2) = 0 then some (s1, (-1)) else bd (if (w32 a2) < 0 then 0 else a2) fun v3 => if b0 = 1000 then none else if bOk b0 then bd (if (w32 ((bLen b0 : Nat) : Int)) < (w32 a3) then ((bLen b0 : Nat) : Int) else a3) fun v4 => (if (w32 v3) < (w32 v4) then if b0 = 1000 then none else bI (d_j1_indexOfChar_4cfef N  s1 b0 a1 v3 v4) fun s5 v6 => some (s5, v6) else some (s1, (-1))) else none)
set_option maxHeartbeats 4000000 in
set_option maxRecDepth 100000 in
theorem c_j1_indexOf_4cfef {sc : xS} {d : Nat} {R : Rs} (N : Nat)  (hd : 1 ≤ d)   (s : St) (b0 : Nat) (a1 : Int) (a2 : Int) (a3 : Int) : d_j1_indexOf_4cfef N  s b0 a1 a2 a3 = some R → vT sc d 208 0 [(0, .retAddr b0), (1, vi a1), (2, vi a2), (3, vi a3)] [] s (fun r => r = qI R) := by
  obtain ⟨d, rfl⟩ : ∃ d', d = d' + 1 := ⟨d - 1, by omega⟩
  unfold d_j1_indexOf_4cfef
  refine vLin 1 i208_0 rfl rfl ?_
  refine vCallI 4 [vi a1] [] [(0, vi a1)] i208_1 rfl (xlk1 l208_88) (Or.inr (Or.inl rfl)) m205 rfl rfl (Nat.le_of_ble_eq_true rfl) (Nat.le_of_ble_eq_true rfl) (Nat.le_of_ble_eq_true rfl) rfl rfl rfl (fun R1 => c_j1_canEncode_9a6ad N   (by omega) s a1) (fun s1 v2 => ?_)
  refine vZne 9 7 rfl i208_4 rfl rfl ?_ ?_
  · refine vLin 10 i208_9 rfl rfl ?_
    refine vK 11 i208_10 rfl ?_
    refine vMax 14 rfl (show w32 0 = 0 from rfl) i208_11 l208_92 (Nat.le_of_ble_eq_true rfl) rfl ?_
    refine vSin 15 (fun v3 => [(2, vi v3), (0, .retAddr b0), (1, vi a1), (3, vi a3)]) i208_14 m208 (by decide) (fun v3 => (rfl : xst1 [(0, .retAddr b0), (1, vi a1), (2, vi a2), (3, vi a3)] 2 (vi v3) = [(2, vi v3), (0, .retAddr b0), (1, vi a1), (3, vi a3)])) rfl (fun v3 => ?_)
    refine vLin 16 i208_15 rfl rfl ?_
    refine vLsn 17 i208_16 rfl rfl ?_
    refine vBln 18 i208_17 rfl ?_
    refine vMin 21 rfl rfl i208_18 l208_38 (Nat.le_of_ble_eq_true rfl) rfl ?_
    refine vSin 22 (fun v4 => [(3, vi v4), (2, vi v3), (0, .retAddr b0), (1, vi a1)]) i208_21 m208 (by decide) (fun v4 => (rfl : xst1 [(2, vi v3), (0, .retAddr b0), (1, vi a1), (3, vi a3)] 3 (vi v4) = [(3, vi v4), (2, vi v3), (0, .retAddr b0), (1, vi a1)])) rfl (fun v4 => ?_)
    refine vLin 23 i208_22 rfl rfl ?_
    refine vLin 24 i208_23 rfl rfl ?_
    refine vClt 29 27 rfl rfl i208_24 rfl rfl ?_ ?_
    · refine vLsn 30 i208_29 rfl rfl ?_
      refine vLin 31 i208_30 rfl rfl ?_
      refine vLin 32 i208_31 rfl rfl ?_
      refine vLin 33 i208_32 rfl rfl ?_
      refine vCallI 36 [.retAddr b0, vi a1, vi v3, vi v4] [] [(0, .retAddr b0), (1, vi a1), (2, vi v3), (3, vi v4)] i208_33 rfl (xlk1 l208_95) (Or.inr (Or.inl rfl)) m207 rfl rfl (Nat.le_of_ble_eq_true rfl) (Nat.le_of_ble_eq_true rfl) (Nat.le_of_ble_eq_true rfl) rfl rfl rfl (fun R1 => c_j1_indexOfChar_4cfef N   (by omega) s1 b0 a1 v3 v4) (fun s5 v6 => ?_)
      exact vRi i208_36 m208 rfl
    · refine vK 28 i208_27 rfl ?_
      exact vRi i208_28 m208 rfl
  · refine vK 8 i208_7 rfl ?_
    exact vRi i208_8 m208 rfl
theorem x202_9 : xExf xg 202 9 = some 0 := by decide +kernel
theorem i202_0 : xIns xg 202 0 = some (.aload_n 0) := by decide +kernel
theorem i202_1 : xIns xg 202 1 = some (.invokevirtual 492) := by decide +kernel
theorem i202_4 : xIns xg 202 4 = some (.ifCond .eq 19) := by decide +kernel
theorem i202_23 : xIns xg 202 23 = some (.aload_n 0) := by decide +kernel
theorem i202_24 : xIns xg 202 24 = some (.getfield 9) := by decide +kernel
theorem i202_27 : xIns xg 202 27 = some (.iload_n 1) := by decide +kernel
theorem i202_28 : xIns xg 202 28 = some (.iload_n 2) := by decide +kernel
theorem i202_29 : xIns xg 202 29 = some (.aload_n 0) := by decide +kernel
theorem i202_30 : xIns xg 202 30 = some (.invokevirtual 505) := by decide +kernel
theorem i202_33 : xIns xg 202 33 = some (.invokestatic 640) := by decide +kernel
theorem i202_7 : xIns xg 202 7 = some (.aload_n 0) := by decide +kernel
theorem i202_8 : xIns xg 202 8 = some (.getfield 9) := by decide +kernel
theorem i202_11 : xIns xg 202 11 = some (.iload_n 1) := by decide +kernel
theorem i202_12 : xIns xg 202 12 = some (.iload_n 2) := by decide +kernel
theorem i202_13 : xIns xg 202 13 = some (.aload_n 0) := by decide +kernel
theorem i202_14 : xIns xg 202 14 = some (.invokevirtual 505) := by decide +kernel
theorem i202_17 : xIns xg 202 17 = some (.invokestatic 637) := by decide +kernel
theorem i202_20 : xIns xg 202 20 = some (.goto 16) := by decide +kernel
theorem i202_36 : xIns xg 202 36 = some (.ireturn) := by decide +kernel
theorem m202 : (xMet xg 202).2.2 = (3, (some .int)) := by decide +kernel
def d_j0_indexOf_7cf53 (N : Nat)  (s : St) (e0 : Nat) (a0 : Int) (a1 : Int) : Option Rs :=
  if e0 = 1000 then none else if e0 % 2 = 1 ∧ e0 / 2 < 25 then bI (d_j0_isLatin1_aae02 N  s e0) fun s1 v2 => (if (w32 v2) = 0 then if e0 = 1000 then none else if e0 % 2 = 1 ∧ e0 / 2 < 25 then if e0 = 1000 then none else if e0 % 2 = 1 ∧ e0 / 2 < 25 then bI (d_j0_length_8abf5 N  s1 e0) fun s3 v4 => none else none else none else if e0 = 1000 then none else if e0 % 2 = 1 ∧ e0 / 2 < 25 then if e0 = 1000 then none else if e0 % 2 = 1 ∧ e0 / 2 < 25 then bI (d_j0_length_8abf5 N  s1 e0) fun s5 v6 => bI (d_j1_indexOf_4cfef N  s5 (2 * (e0 / 2) + 2) a0 a1 v6) fun s7 v8 => some (s7, v8) else none else none) else none
set_option maxHeartbeats 4000000 in
set_option maxRecDepth 100000 in
theorem c_j0_indexOf_7cf53 {sc : xS} {d : Nat} {R : Rs} (N : Nat)  (hd : 2 ≤ d)   (s : St) (e0 : Nat) (a0 : Int) (a1 : Int) : d_j0_indexOf_7cf53 N  s e0 a0 a1 = some R → vT sc d 202 0 [(0, .retAddr e0), (1, vi a0), (2, vi a1)] [] s (fun r => r = qI R) := by
  obtain ⟨d, rfl⟩ : ∃ d', d = d' + 1 := ⟨d - 1, by omega⟩
  unfold d_j0_indexOf_7cf53
  refine vLsn 1 i202_0 rfl rfl ?_
  refine vX98 (e := e0) (fun hx98 => ?_)
  refine vCallI 4 [.retAddr e0] [] [(0, .retAddr e0)] i202_1 rfl (xlk0 l202_492) (Or.inl rfl) m203 rfl rfl (Nat.le_of_ble_eq_true rfl) (Nat.le_of_ble_eq_true rfl) (Nat.le_of_ble_eq_true rfl) (xh98 hx98) rfl rfl (fun R1 => c_j0_isLatin1_aae02 N   (by omega) s e0) (fun s1 v2 => ?_)
  refine vZeq 23 7 rfl i202_4 rfl rfl ?_ ?_
  · refine vLsn 24 i202_23 rfl rfl ?_
    refine vGfv 27 i202_24 x202_9 rfl ?_
    refine vLin 28 i202_27 rfl rfl ?_
    refine vLin 29 i202_28 rfl rfl ?_
    refine vLsn 30 i202_29 rfl rfl ?_
    refine vX98 (e := e0) (fun hx98 => ?_)
    refine vCallI 33 [.retAddr e0] [vi a1, vi a0, .retAddr (2 * (e0 / 2) + 2)] [(0, .retAddr e0)] i202_30 rfl (xlk0 l202_505) (Or.inl rfl) m204 rfl rfl (Nat.le_of_ble_eq_true rfl) (Nat.le_of_ble_eq_true rfl) (Nat.le_of_ble_eq_true rfl) (xh98 hx98) rfl rfl (fun R1 => c_j0_length_8abf5 N   (by omega) s1 e0) (fun s3 v4 => ?_)
    exact fun hD => by cases hD
  · refine vLsn 8 i202_7 rfl rfl ?_
    refine vGfv 11 i202_8 x202_9 rfl ?_
    refine vLin 12 i202_11 rfl rfl ?_
    refine vLin 13 i202_12 rfl rfl ?_
    refine vLsn 14 i202_13 rfl rfl ?_
    refine vX98 (e := e0) (fun hx98 => ?_)
    refine vCallI 17 [.retAddr e0] [vi a1, vi a0, .retAddr (2 * (e0 / 2) + 2)] [(0, .retAddr e0)] i202_14 rfl (xlk0 l202_505) (Or.inl rfl) m204 rfl rfl (Nat.le_of_ble_eq_true rfl) (Nat.le_of_ble_eq_true rfl) (Nat.le_of_ble_eq_true rfl) (xh98 hx98) rfl rfl (fun R1 => c_j0_length_8abf5 N   (by omega) s1 e0) (fun s5 v6 => ?_)
    refine vCallI 20 [.retAddr (2 * (e0 / 2) + 2), vi a0, vi a1, vi v6] [] [(0, .retAddr (2 * (e0 / 2) + 2)), (1, vi a0), (2, vi a1), (3, vi v6)] i202_17 rfl (xlk1 l202_637) (Or.inr (Or.inl rfl)) m208 rfl rfl (Nat.le_of_ble_eq_true rfl) (Nat.le_of_ble_eq_true rfl) (Nat.le_of_ble_eq_true rfl) rfl rfl rfl (fun R1 => c_j1_indexOf_4cfef N   (by omega) s5 (2 * (e0 / 2) + 2) a0 a1 v6) (fun s7 v8 => ?_)
    refine vGo 36 i202_20 rfl ?_
    exact vRi i202_36 m202 rfl
theorem i201_0 : xIns xg 201 0 = some (.aload_n 0) := by decide +kernel
theorem i201_1 : xIns xg 201 1 = some (.iload_n 1) := by decide +kernel
theorem i201_2 : xIns xg 201 2 = some (.iconst 0) := by decide +kernel
theorem i201_3 : xIns xg 201 3 = some (.invokevirtual 633) := by decide +kernel
theorem i201_6 : xIns xg 201 6 = some (.ireturn) := by decide +kernel
theorem m201 : (xMet xg 201).2.2 = (2, (some .int)) := by decide +kernel
def d_j0_indexOf_0f7a4 (N : Nat)  (s : St) (e0 : Nat) (a0 : Int) : Option Rs :=
  if e0 = 1000 then none else if e0 % 2 = 1 ∧ e0 / 2 < 25 then bI (d_j0_indexOf_7cf53 N  s e0 a0 0) fun s1 v2 => some (s1, v2) else none
set_option maxHeartbeats 4000000 in
set_option maxRecDepth 100000 in
theorem c_j0_indexOf_0f7a4 {sc : xS} {d : Nat} {R : Rs} (N : Nat)  (hd : 3 ≤ d)   (s : St) (e0 : Nat) (a0 : Int) : d_j0_indexOf_0f7a4 N  s e0 a0 = some R → vT sc d 201 0 [(0, .retAddr e0), (1, vi a0)] [] s (fun r => r = qI R) := by
  obtain ⟨d, rfl⟩ : ∃ d', d = d' + 1 := ⟨d - 1, by omega⟩
  unfold d_j0_indexOf_0f7a4
  refine vLsn 1 i201_0 rfl rfl ?_
  refine vLin 2 i201_1 rfl rfl ?_
  refine vK 3 i201_2 rfl ?_
  refine vX98 (e := e0) (fun hx98 => ?_)
  refine vCallI 6 [.retAddr e0, vi a0, vi 0] [] [(0, .retAddr e0), (1, vi a0), (2, vi 0)] i201_3 rfl (xlk0 l201_633) (Or.inl rfl) m202 rfl rfl (Nat.le_of_ble_eq_true rfl) (Nat.le_of_ble_eq_true rfl) (Nat.le_of_ble_eq_true rfl) (xh98 hx98) rfl rfl (fun R1 => c_j0_indexOf_7cf53 N   (by omega) s e0 a0 0) (fun s1 v2 => ?_)
  exact vRi i201_6 m201 rfl
theorem i5_0 : xIns xg 5 0 = some (.iload_n 0) := by decide +kernel
theorem i5_1 : xIns xg 5 1 = some (.tableswitch 106 1 13 #[67, 70, 73, 76, 79, 82, 85, 88, 91, 94, 97, 100, 103]) := by decide +kernel
theorem i5_68 : xIns xg 5 68 = some (.ldc 9) := by decide +kernel
theorem s5_9 : xStr xg 5 9 = some 1 := by decide +kernel
theorem sn5_9 : xCon xg 5 9 = none := by decide +kernel
theorem i5_70 : xIns xg 5 70 = some (.areturn) := by decide +kernel
theorem m5 : (xMet xg 5).2.2 = (1, (some (.object "java/lang/String"))) := by decide +kernel
theorem i5_71 : xIns xg 5 71 = some (.ldc 11) := by decide +kernel
theorem s5_11 : xStr xg 5 11 = some 2 := by decide +kernel
theorem sn5_11 : xCon xg 5 11 = none := by decide +kernel
theorem i5_73 : xIns xg 5 73 = some (.areturn) := by decide +kernel
theorem i5_74 : xIns xg 5 74 = some (.ldc 13) := by decide +kernel
theorem s5_13 : xStr xg 5 13 = some 3 := by decide +kernel
theorem sn5_13 : xCon xg 5 13 = none := by decide +kernel
theorem i5_76 : xIns xg 5 76 = some (.areturn) := by decide +kernel
theorem i5_77 : xIns xg 5 77 = some (.ldc 15) := by decide +kernel
theorem s5_15 : xStr xg 5 15 = some 4 := by decide +kernel
theorem sn5_15 : xCon xg 5 15 = none := by decide +kernel
theorem i5_79 : xIns xg 5 79 = some (.areturn) := by decide +kernel
theorem i5_80 : xIns xg 5 80 = some (.ldc 17) := by decide +kernel
theorem s5_17 : xStr xg 5 17 = some 5 := by decide +kernel
theorem sn5_17 : xCon xg 5 17 = none := by decide +kernel
theorem i5_82 : xIns xg 5 82 = some (.areturn) := by decide +kernel
theorem i5_83 : xIns xg 5 83 = some (.ldc 19) := by decide +kernel
theorem s5_19 : xStr xg 5 19 = some 6 := by decide +kernel
theorem sn5_19 : xCon xg 5 19 = none := by decide +kernel
theorem i5_85 : xIns xg 5 85 = some (.areturn) := by decide +kernel
theorem i5_86 : xIns xg 5 86 = some (.ldc 21) := by decide +kernel
theorem s5_21 : xStr xg 5 21 = some 7 := by decide +kernel
theorem sn5_21 : xCon xg 5 21 = none := by decide +kernel
theorem i5_88 : xIns xg 5 88 = some (.areturn) := by decide +kernel
theorem i5_89 : xIns xg 5 89 = some (.ldc 23) := by decide +kernel
theorem s5_23 : xStr xg 5 23 = some 8 := by decide +kernel
theorem sn5_23 : xCon xg 5 23 = none := by decide +kernel
theorem i5_91 : xIns xg 5 91 = some (.areturn) := by decide +kernel
theorem i5_92 : xIns xg 5 92 = some (.ldc 25) := by decide +kernel
theorem s5_25 : xStr xg 5 25 = some 9 := by decide +kernel
theorem sn5_25 : xCon xg 5 25 = none := by decide +kernel
theorem i5_94 : xIns xg 5 94 = some (.areturn) := by decide +kernel
theorem i5_95 : xIns xg 5 95 = some (.ldc 27) := by decide +kernel
theorem s5_27 : xStr xg 5 27 = some 10 := by decide +kernel
theorem sn5_27 : xCon xg 5 27 = none := by decide +kernel
theorem i5_97 : xIns xg 5 97 = some (.areturn) := by decide +kernel
theorem i5_98 : xIns xg 5 98 = some (.ldc 29) := by decide +kernel
theorem s5_29 : xStr xg 5 29 = some 11 := by decide +kernel
theorem sn5_29 : xCon xg 5 29 = none := by decide +kernel
theorem i5_100 : xIns xg 5 100 = some (.areturn) := by decide +kernel
theorem i5_101 : xIns xg 5 101 = some (.ldc 31) := by decide +kernel
theorem s5_31 : xStr xg 5 31 = some 12 := by decide +kernel
theorem sn5_31 : xCon xg 5 31 = none := by decide +kernel
theorem i5_103 : xIns xg 5 103 = some (.areturn) := by decide +kernel
theorem i5_104 : xIns xg 5 104 = some (.ldc 33) := by decide +kernel
theorem s5_33 : xStr xg 5 33 = some 13 := by decide +kernel
theorem sn5_33 : xCon xg 5 33 = none := by decide +kernel
theorem i5_106 : xIns xg 5 106 = some (.areturn) := by decide +kernel
theorem i5_107 : xIns xg 5 107 = some (.ldc 35) := by decide +kernel
theorem s5_35 : xStr xg 5 35 = some 14 := by decide +kernel
theorem sn5_35 : xCon xg 5 35 = none := by decide +kernel
theorem i5_109 : xIns xg 5 109 = some (.areturn) := by decide +kernel
def d_x0_word (N : Nat)  (s : St) (a0 : Int) : Option Rs :=
  (if (w32 a0) = 1 then some (s, (((2 * 1 + 1) : Nat) : Int)) else (if (w32 a0) = 2 then some (s, (((2 * 2 + 1) : Nat) : Int)) else (if (w32 a0) = 3 then some (s, (((2 * 3 + 1) : Nat) : Int)) else (if (w32 a0) = 4 then some (s, (((2 * 4 + 1) : Nat) : Int)) else (if (w32 a0) = 5 then some (s, (((2 * 5 + 1) : Nat) : Int)) else (if (w32 a0) = 6 then some (s, (((2 * 6 + 1) : Nat) : Int)) else (if (w32 a0) = 7 then some (s, (((2 * 7 + 1) : Nat) : Int)) else (if (w32 a0) = 8 then some (s, (((2 * 8 + 1) : Nat) : Int)) else (if (w32 a0) = 9 then some (s, (((2 * 9 + 1) : Nat) : Int)) else (if (w32 a0) = 10 then some (s, (((2 * 10 + 1) : Nat) : Int)) else (if (w32 a0) = 11 then some (s, (((2 * 11 + 1) : Nat) : Int)) else (if (w32 a0) = 12 then some (s, (((2 * 12 + 1) : Nat) : Int)) else (if (w32 a0) = 13 then some (s, (((2 * 13 + 1) : Nat) : Int)) else some (s, (((2 * 14 + 1) : Nat) : Int)))))))))))))))
set_option maxHeartbeats 4000000 in
set_option maxRecDepth 100000 in
theorem c_x0_word {sc : xS} {d : Nat} {R : Rs} (N : Nat)  (hd : 0 ≤ d)   (s : St) (a0 : Int) : d_x0_word N  s a0 = some R → vT sc d 5 0 [(0, vi a0)] [] s (fun r => r = qS R) := by
  unfold d_x0_word
  refine vLin 1 i5_0 rfl rfl ?_
  refine vSw 68 (v := 1) rfl i5_1 rfl rfl ?_ (fun h1 => ?_)
  · refine vLdS 70 i5_68 sn5_9 s5_9 rfl ?_
    exact vRa (by decide) i5_70 m5
  refine vSw 71 (v := 2) rfl i5_1 rfl rfl ?_ (fun h2 => ?_)
  · refine vLdS 73 i5_71 sn5_11 s5_11 rfl ?_
    exact vRa (by decide) i5_73 m5
  refine vSw 74 (v := 3) rfl i5_1 rfl rfl ?_ (fun h3 => ?_)
  · refine vLdS 76 i5_74 sn5_13 s5_13 rfl ?_
    exact vRa (by decide) i5_76 m5
  refine vSw 77 (v := 4) rfl i5_1 rfl rfl ?_ (fun h4 => ?_)
  · refine vLdS 79 i5_77 sn5_15 s5_15 rfl ?_
    exact vRa (by decide) i5_79 m5
  refine vSw 80 (v := 5) rfl i5_1 rfl rfl ?_ (fun h5 => ?_)
  · refine vLdS 82 i5_80 sn5_17 s5_17 rfl ?_
    exact vRa (by decide) i5_82 m5
  refine vSw 83 (v := 6) rfl i5_1 rfl rfl ?_ (fun h6 => ?_)
  · refine vLdS 85 i5_83 sn5_19 s5_19 rfl ?_
    exact vRa (by decide) i5_85 m5
  refine vSw 86 (v := 7) rfl i5_1 rfl rfl ?_ (fun h7 => ?_)
  · refine vLdS 88 i5_86 sn5_21 s5_21 rfl ?_
    exact vRa (by decide) i5_88 m5
  refine vSw 89 (v := 8) rfl i5_1 rfl rfl ?_ (fun h8 => ?_)
  · refine vLdS 91 i5_89 sn5_23 s5_23 rfl ?_
    exact vRa (by decide) i5_91 m5
  refine vSw 92 (v := 9) rfl i5_1 rfl rfl ?_ (fun h9 => ?_)
  · refine vLdS 94 i5_92 sn5_25 s5_25 rfl ?_
    exact vRa (by decide) i5_94 m5
  refine vSw 95 (v := 10) rfl i5_1 rfl rfl ?_ (fun h10 => ?_)
  · refine vLdS 97 i5_95 sn5_27 s5_27 rfl ?_
    exact vRa (by decide) i5_97 m5
  refine vSw 98 (v := 11) rfl i5_1 rfl rfl ?_ (fun h11 => ?_)
  · refine vLdS 100 i5_98 sn5_29 s5_29 rfl ?_
    exact vRa (by decide) i5_100 m5
  refine vSw 101 (v := 12) rfl i5_1 rfl rfl ?_ (fun h12 => ?_)
  · refine vLdS 103 i5_101 sn5_31 s5_31 rfl ?_
    exact vRa (by decide) i5_103 m5
  refine vSw 104 (v := 13) rfl i5_1 rfl rfl ?_ (fun h13 => ?_)
  · refine vLdS 106 i5_104 sn5_33 s5_33 rfl ?_
    exact vRa (by decide) i5_106 m5
  refine vSwD 107 i5_1 (by omega) rfl ?_
  refine vLdS 109 i5_107 sn5_35 s5_35 rfl ?_
  exact vRa (by decide) i5_109 m5
theorem i2_0 : xIns xg 2 0 = some (.iload_n 0) := by decide +kernel
theorem i2_1 : xIns xg 2 1 = some (.tableswitch 71 1 13 #[67, 71, 67, 67, 67, 71, 71, 69, 69, 71, 71, 69, 69]) := by decide +kernel
theorem i2_68 : xIns xg 2 68 = some (.iconst 1) := by decide +kernel
theorem i2_69 : xIns xg 2 69 = some (.ireturn) := by decide +kernel
theorem m2 : (xMet xg 2).2.2 = (1, (some .boolean)) := by decide +kernel
theorem i2_70 : xIns xg 2 70 = some (.iconst 1) := by decide +kernel
theorem i2_71 : xIns xg 2 71 = some (.ireturn) := by decide +kernel
theorem i2_72 : xIns xg 2 72 = some (.iconst 0) := by decide +kernel
theorem i2_73 : xIns xg 2 73 = some (.ireturn) := by decide +kernel
def d_x0_hasNumber (N : Nat)  (s : St) (a0 : Int) : Option Rs :=
  (if (w32 a0) = 1 then some (s, 1) else (if (w32 a0) = 3 then some (s, 1) else (if (w32 a0) = 4 then some (s, 1) else (if (w32 a0) = 5 then some (s, 1) else (if (w32 a0) = 8 then some (s, 1) else (if (w32 a0) = 9 then some (s, 1) else (if (w32 a0) = 12 then some (s, 1) else (if (w32 a0) = 13 then some (s, 1) else (if (w32 a0) = 2 then some (s, 0) else (if (w32 a0) = 6 then some (s, 0) else (if (w32 a0) = 7 then some (s, 0) else (if (w32 a0) = 10 then some (s, 0) else (if (w32 a0) = 11 then some (s, 0) else some (s, 0))))))))))))))
set_option maxHeartbeats 4000000 in
set_option maxRecDepth 100000 in
theorem c_x0_hasNumber {sc : xS} {d : Nat} {R : Rs} (N : Nat)  (hd : 0 ≤ d)   (s : St) (a0 : Int) : d_x0_hasNumber N  s a0 = some R → vT sc d 2 0 [(0, vi a0)] [] s (fun r => r = qI R) := by
  unfold d_x0_hasNumber
  refine vLin 1 i2_0 rfl rfl ?_
  refine vSw 68 (v := 1) rfl i2_1 rfl rfl ?_ (fun h1 => ?_)
  · refine vK 69 i2_68 rfl ?_
    exact vRi i2_69 m2 (by decide)
  refine vSw 68 (v := 3) rfl i2_1 rfl rfl ?_ (fun h3 => ?_)
  · refine vK 69 i2_68 rfl ?_
    exact vRi i2_69 m2 (by decide)
  refine vSw 68 (v := 4) rfl i2_1 rfl rfl ?_ (fun h4 => ?_)
  · refine vK 69 i2_68 rfl ?_
    exact vRi i2_69 m2 (by decide)
  refine vSw 68 (v := 5) rfl i2_1 rfl rfl ?_ (fun h5 => ?_)
  · refine vK 69 i2_68 rfl ?_
    exact vRi i2_69 m2 (by decide)
  refine vSw 70 (v := 8) rfl i2_1 rfl rfl ?_ (fun h8 => ?_)
  · refine vK 71 i2_70 rfl ?_
    exact vRi i2_71 m2 (by decide)
  refine vSw 70 (v := 9) rfl i2_1 rfl rfl ?_ (fun h9 => ?_)
  · refine vK 71 i2_70 rfl ?_
    exact vRi i2_71 m2 (by decide)
  refine vSw 70 (v := 12) rfl i2_1 rfl rfl ?_ (fun h12 => ?_)
  · refine vK 71 i2_70 rfl ?_
    exact vRi i2_71 m2 (by decide)
  refine vSw 70 (v := 13) rfl i2_1 rfl rfl ?_ (fun h13 => ?_)
  · refine vK 71 i2_70 rfl ?_
    exact vRi i2_71 m2 (by decide)
  refine vSw 72 (v := 2) rfl i2_1 rfl rfl ?_ (fun h2 => ?_)
  · refine vK 73 i2_72 rfl ?_
    exact vRi i2_73 m2 (by decide)
  refine vSw 72 (v := 6) rfl i2_1 rfl rfl ?_ (fun h6 => ?_)
  · refine vK 73 i2_72 rfl ?_
    exact vRi i2_73 m2 (by decide)
  refine vSw 72 (v := 7) rfl i2_1 rfl rfl ?_ (fun h7 => ?_)
  · refine vK 73 i2_72 rfl ?_
    exact vRi i2_73 m2 (by decide)
  refine vSw 72 (v := 10) rfl i2_1 rfl rfl ?_ (fun h10 => ?_)
  · refine vK 73 i2_72 rfl ?_
    exact vRi i2_73 m2 (by decide)
  refine vSw 72 (v := 11) rfl i2_1 rfl rfl ?_ (fun h11 => ?_)
  · refine vK 73 i2_72 rfl ?_
    exact vRi i2_73 m2 (by decide)
  refine vSwD 72 i2_1 (by omega) rfl ?_
  refine vK 73 i2_72 rfl ?_
  exact vRi i2_73 m2 (by decide)
theorem i1_39 : xIns xg 1 39 = some (.iconst 1) := by decide +kernel
theorem i1_40 : xIns xg 1 40 = some (.goto 4) := by decide +kernel
theorem i1_44 : xIns xg 1 44 = some (.ireturn) := by decide +kernel
theorem m1 : (xMet xg 1).2.2 = (2, (some .boolean)) := by decide +kernel
theorem i1_0 : xIns xg 1 0 = some (.iload_n 0) := by decide +kernel
theorem i1_1 : xIns xg 1 1 = some (.bipush 13) := by decide +kernel
theorem i1_3 : xIns xg 1 3 = some (.if_icmp .ne 20) := by decide +kernel
theorem i1_23 : xIns xg 1 23 = some (.iload_n 1) := by decide +kernel
theorem i1_24 : xIns xg 1 24 = some (.ifCond .ge 15) := by decide +kernel
theorem i1_27 : xIns xg 1 27 = some (.iload_n 0) := by decide +kernel
theorem i1_28 : xIns xg 1 28 = some (.bipush 8) := by decide +kernel
theorem i1_30 : xIns xg 1 30 = some (.if_icmp .eq 13) := by decide +kernel
theorem i1_43 : xIns xg 1 43 = some (.iconst 0) := by decide +kernel
theorem i1_33 : xIns xg 1 33 = some (.iload_n 0) := by decide +kernel
theorem i1_34 : xIns xg 1 34 = some (.bipush 9) := by decide +kernel
theorem i1_36 : xIns xg 1 36 = some (.if_icmp .eq 7) := by decide +kernel
theorem i1_6 : xIns xg 1 6 = some (.iload_n 1) := by decide +kernel
theorem i1_7 : xIns xg 1 7 = some (.iconst 1) := by decide +kernel
theorem i1_8 : xIns xg 1 8 = some (.if_icmp .lt 13) := by decide +kernel
theorem i1_21 : xIns xg 1 21 = some (.iconst 0) := by decide +kernel
theorem i1_22 : xIns xg 1 22 = some (.ireturn) := by decide +kernel
theorem i1_11 : xIns xg 1 11 = some (.iload_n 1) := by decide +kernel
theorem i1_12 : xIns xg 1 12 = some (.bipush 9) := by decide +kernel
theorem i1_14 : xIns xg 1 14 = some (.if_icmp .gt 7) := by decide +kernel
theorem i1_17 : xIns xg 1 17 = some (.iconst 1) := by decide +kernel
theorem i1_18 : xIns xg 1 18 = some (.goto 4) := by decide +kernel
def d_x0_allows_39 (N : Nat)  (s : St)  : Option Rs :=
  some (s, 1)
set_option maxHeartbeats 4000000 in
set_option maxRecDepth 100000 in
theorem c_x0_allows_39 {sc : xS} {d : Nat} {R : Rs} (N : Nat)  (hd : 0 ≤ d)   (s : St)  : d_x0_allows_39 N  s  = some R → vT sc d 1 39 [] [] s (fun r => r = qI R) := by
  unfold d_x0_allows_39
  refine vK 40 i1_39 rfl ?_
  refine vGo 44 i1_40 rfl ?_
  exact vRi i1_44 m1 (by decide)
def d_x0_allows (N : Nat)  (s : St) (a0 : Int) (a1 : Int) : Option Rs :=
  (if (w32 a0) = 13 then (if (w32 a1) < 1 then some (s, 0) else (if 9 < (w32 a1) then some (s, 0) else some (s, 1))) else (if (w32 a1) < 0 then (if (w32 a0) = 8 then some (s, 0) else (if (w32 a0) = 9 then some (s, 0) else d_x0_allows_39 N  s )) else d_x0_allows_39 N  s ))
set_option maxHeartbeats 4000000 in
set_option maxRecDepth 100000 in
theorem c_x0_allows {sc : xS} {d : Nat} {R : Rs} (N : Nat)  (hd : 0 ≤ d)   (s : St) (a0 : Int) (a1 : Int) : d_x0_allows N  s a0 a1 = some R → vT sc d 1 0 [(0, vi a0), (1, vi a1)] [] s (fun r => r = qI R) := by
  unfold d_x0_allows
  refine vLin 1 i1_0 rfl rfl ?_
  refine vKb 3 i1_1 (by decide) rfl ?_
  refine vCne 23 6 rfl (show w32 13 = 13 from rfl) i1_3 rfl rfl ?_ ?_
  · refine vLin 24 i1_23 rfl rfl ?_
    refine vZge 39 27 rfl i1_24 rfl rfl ?_ ?_
    · exact fun hD => tLc [] (xNdk [] rfl (by decide)) (xNdk [0, 1] rfl (by decide)) trivial (c_x0_allows_39 N  hd  s  hD)
    · refine vLin 28 i1_27 rfl rfl ?_
      refine vKb 30 i1_28 (by decide) rfl ?_
      refine vCeq 43 33 rfl (show w32 8 = 8 from rfl) i1_30 rfl rfl ?_ ?_
      · refine vK 44 i1_43 rfl ?_
        exact vRi i1_44 m1 (by decide)
      · refine vLin 34 i1_33 rfl rfl ?_
        refine vKb 36 i1_34 (by decide) rfl ?_
        refine vCeq 43 39 rfl (show w32 9 = 9 from rfl) i1_36 rfl rfl ?_ ?_
        · refine vK 44 i1_43 rfl ?_
          exact vRi i1_44 m1 (by decide)
        · exact fun hD => tLc [] (xNdk [] rfl (by decide)) (xNdk [0, 1] rfl (by decide)) trivial (c_x0_allows_39 N  hd  s  hD)
  · refine vLin 7 i1_6 rfl rfl ?_
    refine vK 8 i1_7 rfl ?_
    refine vClt 21 11 rfl (show w32 1 = 1 from rfl) i1_8 rfl rfl ?_ ?_
    · refine vK 22 i1_21 rfl ?_
      exact vRi i1_22 m1 (by decide)
    · refine vLin 12 i1_11 rfl rfl ?_
      refine vKb 14 i1_12 (by decide) rfl ?_
      refine vCgt 21 17 rfl (show w32 9 = 9 from rfl) i1_14 rfl rfl ?_ ?_
      · refine vK 22 i1_21 rfl ?_
        exact vRi i1_22 m1 (by decide)
      · refine vK 18 i1_17 rfl ?_
        refine vGo 22 i1_18 rfl ?_
        exact vRi i1_22 m1 (by decide)
