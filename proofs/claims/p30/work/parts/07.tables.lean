def tJ0_charAt_5068e_0 : List (List (Nat × Instr)) := [[(0, .aload_n 0), (1, .invokevirtual 492), (4, .ifCond .eq 12), (7, .aload_n 0), (8, .getfield 9), (11, .iload_n 1), (12, .invokestatic 495), (15, .ireturn)], [(16, .aload_n 0), (17, .getfield 9), (20, .iload_n 1), (21, .invokestatic 498), (24, .ireturn)]]
theorem uJ0_charAt_5068e_0 : ∀ r ∈ tJ0_charAt_5068e_0, xchk1 cJ0_charAt_5068e r = true := fun r hr => List.all_eq_true.mp (by decide +kernel : (tJ0_charAt_5068e_0.all (fun r => xchk1 cJ0_charAt_5068e r)) = true) r hr
def tJ0_charAt_5068e : List (List (Nat × Instr)) := tJ0_charAt_5068e_0
theorem uJ0_charAt_5068e : ∀ r ∈ tJ0_charAt_5068e, xchk1 cJ0_charAt_5068e r = true := uJ0_charAt_5068e_0
def tJ0_checkBoundsBeginEnd_23922_0 : List (List (Nat × Instr)) := [[(0, .iload_n 0), (1, .iload_n 1), (2, .iload_n 2), (3, .getstatic 1053), (6, .invokestatic 1062), (9, .pop), (10, .return_)]]
theorem uJ0_checkBoundsBeginEnd_23922_0 : ∀ r ∈ tJ0_checkBoundsBeginEnd_23922_0, xchk1 cJ0_checkBoundsBeginEnd_23922 r = true := fun r hr => List.all_eq_true.mp (by decide +kernel : (tJ0_checkBoundsBeginEnd_23922_0.all (fun r => xchk1 cJ0_checkBoundsBeginEnd_23922 r)) = true) r hr
def tJ0_checkBoundsBeginEnd_23922 : List (List (Nat × Instr)) := tJ0_checkBoundsBeginEnd_23922_0
theorem uJ0_checkBoundsBeginEnd_23922 : ∀ r ∈ tJ0_checkBoundsBeginEnd_23922, xchk1 cJ0_checkBoundsBeginEnd_23922 r = true := uJ0_checkBoundsBeginEnd_23922_0
def tJ0_checkIndex_df160_0 : List (List (Nat × Instr)) := [[(0, .iload_n 0), (1, .iload_n 1), (2, .getstatic 1053), (5, .invokestatic 1059), (8, .pop), (9, .return_)]]
theorem uJ0_checkIndex_df160_0 : ∀ r ∈ tJ0_checkIndex_df160_0, xchk1 cJ0_checkIndex_df160 r = true := fun r hr => List.all_eq_true.mp (by decide +kernel : (tJ0_checkIndex_df160_0.all (fun r => xchk1 cJ0_checkIndex_df160 r)) = true) r hr
def tJ0_checkIndex_df160 : List (List (Nat × Instr)) := tJ0_checkIndex_df160_0
theorem uJ0_checkIndex_df160 : ∀ r ∈ tJ0_checkIndex_df160, xchk1 cJ0_checkIndex_df160 r = true := uJ0_checkIndex_df160_0
def tJ0_coder_7d493_0 : List (List (Nat × Instr)) := [[(0, .getstatic 38), (3, .ifCond .eq 10), (6, .aload_n 0), (7, .getfield 15), (10, .goto 4), (13, .iconst 1), (14, .ireturn)]]
theorem uJ0_coder_7d493_0 : ∀ r ∈ tJ0_coder_7d493_0, xchk1 cJ0_coder_7d493 r = true := fun r hr => List.all_eq_true.mp (by decide +kernel : (tJ0_coder_7d493_0.all (fun r => xchk1 cJ0_coder_7d493 r)) = true) r hr
def tJ0_coder_7d493 : List (List (Nat × Instr)) := tJ0_coder_7d493_0
theorem uJ0_coder_7d493 : ∀ r ∈ tJ0_coder_7d493, xchk1 cJ0_coder_7d493 r = true := uJ0_coder_7d493_0
def tJ0_indexOf_0f7a4_0 : List (List (Nat × Instr)) := [[(0, .aload_n 0), (1, .iload_n 1), (2, .iconst 0), (3, .invokevirtual 633), (6, .ireturn)]]
theorem uJ0_indexOf_0f7a4_0 : ∀ r ∈ tJ0_indexOf_0f7a4_0, xchk1 cJ0_indexOf_0f7a4 r = true := fun r hr => List.all_eq_true.mp (by decide +kernel : (tJ0_indexOf_0f7a4_0.all (fun r => xchk1 cJ0_indexOf_0f7a4 r)) = true) r hr
def tJ0_indexOf_0f7a4 : List (List (Nat × Instr)) := tJ0_indexOf_0f7a4_0
theorem uJ0_indexOf_0f7a4 : ∀ r ∈ tJ0_indexOf_0f7a4, xchk1 cJ0_indexOf_0f7a4 r = true := uJ0_indexOf_0f7a4_0
def tJ0_indexOf_7cf53_0 : List (List (Nat × Instr)) := [[(0, .aload_n 0), (1, .invokevirtual 492), (4, .ifCond .eq 19), (7, .aload_n 0), (8, .getfield 9), (11, .iload_n 1), (12, .iload_n 2), (13, .aload_n 0), (14, .invokevirtual 505)], [(17, .invokestatic 637), (20, .goto 16), (23, .aload_n 0), (24, .getfield 9), (27, .iload_n 1), (28, .iload_n 2), (29, .aload_n 0), (30, .invokevirtual 505)], [(33, .invokestatic 640), (36, .ireturn)]]
theorem uJ0_indexOf_7cf53_0 : ∀ r ∈ tJ0_indexOf_7cf53_0, xchk1 cJ0_indexOf_7cf53 r = true := fun r hr => List.all_eq_true.mp (by decide +kernel : (tJ0_indexOf_7cf53_0.all (fun r => xchk1 cJ0_indexOf_7cf53 r)) = true) r hr
def tJ0_indexOf_7cf53 : List (List (Nat × Instr)) := tJ0_indexOf_7cf53_0
theorem uJ0_indexOf_7cf53 : ∀ r ∈ tJ0_indexOf_7cf53, xchk1 cJ0_indexOf_7cf53 r = true := uJ0_indexOf_7cf53_0
def tJ0_isLatin1_aae02_0 : List (List (Nat × Instr)) := [[(0, .getstatic 38), (3, .ifCond .eq 14), (6, .aload_n 0), (7, .getfield 15), (10, .ifCond .ne 7), (13, .iconst 1), (14, .goto 4)], [(17, .iconst 0), (18, .ireturn)]]
theorem uJ0_isLatin1_aae02_0 : ∀ r ∈ tJ0_isLatin1_aae02_0, xchk1 cJ0_isLatin1_aae02 r = true := fun r hr => List.all_eq_true.mp (by decide +kernel : (tJ0_isLatin1_aae02_0.all (fun r => xchk1 cJ0_isLatin1_aae02 r)) = true) r hr
def tJ0_isLatin1_aae02 : List (List (Nat × Instr)) := tJ0_isLatin1_aae02_0
theorem uJ0_isLatin1_aae02 : ∀ r ∈ tJ0_isLatin1_aae02, xchk1 cJ0_isLatin1_aae02 r = true := uJ0_isLatin1_aae02_0
def tJ0_length_8abf5_0 : List (List (Nat × Instr)) := [[(0, .aload_n 0), (1, .getfield 9), (4, .arraylength), (5, .aload_n 0), (6, .invokevirtual 335), (9, .ishr), (10, .ireturn)]]
theorem uJ0_length_8abf5_0 : ∀ r ∈ tJ0_length_8abf5_0, xchk1 cJ0_length_8abf5 r = true := fun r hr => List.all_eq_true.mp (by decide +kernel : (tJ0_length_8abf5_0.all (fun r => xchk1 cJ0_length_8abf5 r)) = true) r hr
def tJ0_length_8abf5 : List (List (Nat × Instr)) := tJ0_length_8abf5_0
theorem uJ0_length_8abf5 : ∀ r ∈ tJ0_length_8abf5, xchk1 cJ0_length_8abf5 r = true := uJ0_length_8abf5_0
def tJ1_canEncode_9a6ad_0 : List (List (Nat × Instr)) := [[(0, .iload_n 0), (1, .ifCond .lt 14), (4, .iload_n 0), (5, .sipush 255), (8, .if_icmp .gt 7), (11, .iconst 1), (12, .goto 4), (15, .iconst 0)], [(16, .ireturn)]]
theorem uJ1_canEncode_9a6ad_0 : ∀ r ∈ tJ1_canEncode_9a6ad_0, xchk1 cJ1_canEncode_9a6ad r = true := fun r hr => List.all_eq_true.mp (by decide +kernel : (tJ1_canEncode_9a6ad_0.all (fun r => xchk1 cJ1_canEncode_9a6ad r)) = true) r hr
def tJ1_canEncode_9a6ad : List (List (Nat × Instr)) := tJ1_canEncode_9a6ad_0
theorem uJ1_canEncode_9a6ad : ∀ r ∈ tJ1_canEncode_9a6ad, xchk1 cJ1_canEncode_9a6ad r = true := uJ1_canEncode_9a6ad_0
def tJ1_charAt_3b067_0 : List (List (Nat × Instr)) := [[(0, .iload_n 1), (1, .aload_n 0), (2, .arraylength), (3, .invokestatic 9), (6, .aload_n 0), (7, .iload_n 1), (8, .baload), (9, .sipush 255), (12, .iand), (13, .i2c), (14, .ireturn)]]
theorem uJ1_charAt_3b067_0 : ∀ r ∈ tJ1_charAt_3b067_0, xchk1 cJ1_charAt_3b067 r = true := fun r hr => List.all_eq_true.mp (by decide +kernel : (tJ1_charAt_3b067_0.all (fun r => xchk1 cJ1_charAt_3b067 r)) = true) r hr
def tJ1_charAt_3b067 : List (List (Nat × Instr)) := tJ1_charAt_3b067_0
theorem uJ1_charAt_3b067 : ∀ r ∈ tJ1_charAt_3b067, xchk1 cJ1_charAt_3b067 r = true := uJ1_charAt_3b067_0
def tJ1_indexOfChar_4cfef_0 : List (List (Nat × Instr)) := [[(0, .iload_n 1), (1, .i2b), (2, .istore 4), (4, .iload_n 2), (5, .istore 5), (7, .iload 5), (9, .iload_n 3), (10, .if_icmp .ge 21), (13, .aload_n 0), (14, .iload 5)], [(16, .baload), (17, .iload 4), (19, .if_icmp .ne 6), (22, .iload 5), (24, .ireturn), (25, .iinc 5 1), (28, .goto (-21)), (31, .iconst (-1))], [(32, .ireturn)]]
theorem uJ1_indexOfChar_4cfef_0 : ∀ r ∈ tJ1_indexOfChar_4cfef_0, xchk1 cJ1_indexOfChar_4cfef r = true := fun r hr => List.all_eq_true.mp (by decide +kernel : (tJ1_indexOfChar_4cfef_0.all (fun r => xchk1 cJ1_indexOfChar_4cfef r)) = true) r hr
def tJ1_indexOfChar_4cfef : List (List (Nat × Instr)) := tJ1_indexOfChar_4cfef_0
theorem uJ1_indexOfChar_4cfef : ∀ r ∈ tJ1_indexOfChar_4cfef, xchk1 cJ1_indexOfChar_4cfef r = true := uJ1_indexOfChar_4cfef_0
def tJ1_indexOf_4cfef_0 : List (List (Nat × Instr)) := [[(0, .iload_n 1), (1, .invokestatic 88), (4, .ifCond .ne 5), (7, .iconst (-1)), (8, .ireturn), (9, .iload_n 2), (10, .iconst 0), (11, .invokestatic 92), (14, .istore_n 2), (15, .iload_n 3)], [(16, .aload_n 0), (17, .arraylength), (18, .invokestatic 38), (21, .istore_n 3), (22, .iload_n 2), (23, .iload_n 3), (24, .if_icmp .lt 5), (27, .iconst (-1)), (28, .ireturn), (29, .aload_n 0), (30, .iload_n 1), (31, .iload_n 2)], [(32, .iload_n 3), (33, .invokestatic 95), (36, .ireturn)]]
theorem uJ1_indexOf_4cfef_0 : ∀ r ∈ tJ1_indexOf_4cfef_0, xchk1 cJ1_indexOf_4cfef r = true := fun r hr => List.all_eq_true.mp (by decide +kernel : (tJ1_indexOf_4cfef_0.all (fun r => xchk1 cJ1_indexOf_4cfef r)) = true) r hr
def tJ1_indexOf_4cfef : List (List (Nat × Instr)) := tJ1_indexOf_4cfef_0
theorem uJ1_indexOf_4cfef : ∀ r ∈ tJ1_indexOf_4cfef, xchk1 cJ1_indexOf_4cfef r = true := uJ1_indexOf_4cfef_0
def tJ2_charAt_3b067_0 : List (List (Nat × Instr)) := [[(0, .iload_n 1), (1, .aload_n 0), (2, .invokestatic 67), (5, .aload_n 0), (6, .iload_n 1), (7, .invokestatic 71), (10, .ireturn)]]
theorem uJ2_charAt_3b067_0 : ∀ r ∈ tJ2_charAt_3b067_0, xchk1 cJ2_charAt_3b067 r = true := fun r hr => List.all_eq_true.mp (by decide +kernel : (tJ2_charAt_3b067_0.all (fun r => xchk1 cJ2_charAt_3b067 r)) = true) r hr
def tJ2_charAt_3b067 : List (List (Nat × Instr)) := tJ2_charAt_3b067_0
theorem uJ2_charAt_3b067 : ∀ r ∈ tJ2_charAt_3b067, xchk1 cJ2_charAt_3b067 r = true := uJ2_charAt_3b067_0
def tJ2_checkBoundsBeginEnd_d044e_0 : List (List (Nat × Instr)) := [[(0, .iload_n 0), (1, .iload_n 1), (2, .aload_n 2), (3, .invokestatic 48), (6, .invokestatic 241), (9, .return_)]]
theorem uJ2_checkBoundsBeginEnd_d044e_0 : ∀ r ∈ tJ2_checkBoundsBeginEnd_d044e_0, xchk1 cJ2_checkBoundsBeginEnd_d044e r = true := fun r hr => List.all_eq_true.mp (by decide +kernel : (tJ2_checkBoundsBeginEnd_d044e_0.all (fun r => xchk1 cJ2_checkBoundsBeginEnd_d044e r)) = true) r hr
def tJ2_checkBoundsBeginEnd_d044e : List (List (Nat × Instr)) := tJ2_checkBoundsBeginEnd_d044e_0
theorem uJ2_checkBoundsBeginEnd_d044e : ∀ r ∈ tJ2_checkBoundsBeginEnd_d044e, xchk1 cJ2_checkBoundsBeginEnd_d044e r = true := uJ2_checkBoundsBeginEnd_d044e_0
def tJ2_checkIndex_2214a_0 : List (List (Nat × Instr)) := [[(0, .iload_n 0), (1, .aload_n 1), (2, .invokestatic 48), (5, .invokestatic 414), (8, .return_)]]
theorem uJ2_checkIndex_2214a_0 : ∀ r ∈ tJ2_checkIndex_2214a_0, xchk1 cJ2_checkIndex_2214a r = true := fun r hr => List.all_eq_true.mp (by decide +kernel : (tJ2_checkIndex_2214a_0.all (fun r => xchk1 cJ2_checkIndex_2214a r)) = true) r hr
def tJ2_checkIndex_2214a : List (List (Nat × Instr)) := tJ2_checkIndex_2214a_0
theorem uJ2_checkIndex_2214a : ∀ r ∈ tJ2_checkIndex_2214a, xchk1 cJ2_checkIndex_2214a r = true := uJ2_checkIndex_2214a_0
def tJ2_getChar_3b067_0 : List (List (Nat × Instr)) := [[(0, .getstatic 44), (3, .ifCond .ne 25), (6, .iload_n 1), (7, .ifCond .lt 11), (10, .iload_n 1), (11, .aload_n 0), (12, .invokestatic 48), (15, .if_icmp .lt 13)], [(18, .new 52), (21, .dup), (22, .ldc 54), (24, .invokespecial 56), (27, .athrow), (28, .iload_n 1), (29, .iconst 1), (30, .ishl), (31, .istore_n 1)], [(32, .aload_n 0), (33, .iload_n 1), (34, .iinc 1 1), (37, .baload), (38, .sipush 255), (41, .iand), (42, .getstatic 59), (45, .ishl), (46, .aload_n 0), (47, .iload_n 1)], [(48, .baload), (49, .sipush 255), (52, .iand), (53, .getstatic 63), (56, .ishl), (57, .ior), (58, .i2c), (59, .ireturn)]]
theorem uJ2_getChar_3b067_0 : ∀ r ∈ tJ2_getChar_3b067_0, xchk1 cJ2_getChar_3b067 r = true := fun r hr => List.all_eq_true.mp (by decide +kernel : (tJ2_getChar_3b067_0.all (fun r => xchk1 cJ2_getChar_3b067 r)) = true) r hr
def tJ2_getChar_3b067 : List (List (Nat × Instr)) := tJ2_getChar_3b067_0
theorem uJ2_getChar_3b067 : ∀ r ∈ tJ2_getChar_3b067, xchk1 cJ2_getChar_3b067 r = true := uJ2_getChar_3b067_0
def tJ2_indexOfCharUnsafe_4cfef_0 : List (List (Nat × Instr)) := [[(0, .iload_n 2), (1, .istore 4), (3, .iload 4), (5, .iload_n 3), (6, .if_icmp .ge 22), (9, .aload_n 0), (10, .iload 4), (12, .invokestatic 71), (15, .iload_n 1)], [(16, .if_icmp .ne 6), (19, .iload 4), (21, .ireturn), (22, .iinc 4 1), (25, .goto (-22)), (28, .iconst (-1)), (29, .ireturn)]]
theorem uJ2_indexOfCharUnsafe_4cfef_0 : ∀ r ∈ tJ2_indexOfCharUnsafe_4cfef_0, xchk1 cJ2_indexOfCharUnsafe_4cfef r = true := fun r hr => List.all_eq_true.mp (by decide +kernel : (tJ2_indexOfCharUnsafe_4cfef_0.all (fun r => xchk1 cJ2_indexOfCharUnsafe_4cfef r)) = true) r hr
def tJ2_indexOfCharUnsafe_4cfef : List (List (Nat × Instr)) := tJ2_indexOfCharUnsafe_4cfef_0
theorem uJ2_indexOfCharUnsafe_4cfef : ∀ r ∈ tJ2_indexOfCharUnsafe_4cfef, xchk1 cJ2_indexOfCharUnsafe_4cfef r = true := uJ2_indexOfCharUnsafe_4cfef_0
def tJ2_indexOfChar_4cfef_0 : List (List (Nat × Instr)) := [[(0, .iload_n 2), (1, .iload_n 3), (2, .aload_n 0), (3, .invokestatic 96), (6, .aload_n 0), (7, .iload_n 1), (8, .iload_n 2), (9, .iload_n 3), (10, .invokestatic 244), (13, .ireturn)]]
theorem uJ2_indexOfChar_4cfef_0 : ∀ r ∈ tJ2_indexOfChar_4cfef_0, xchk1 cJ2_indexOfChar_4cfef r = true := fun r hr => List.all_eq_true.mp (by decide +kernel : (tJ2_indexOfChar_4cfef_0.all (fun r => xchk1 cJ2_indexOfChar_4cfef r)) = true) r hr
def tJ2_indexOfChar_4cfef : List (List (Nat × Instr)) := tJ2_indexOfChar_4cfef_0
theorem uJ2_indexOfChar_4cfef : ∀ r ∈ tJ2_indexOfChar_4cfef, xchk1 cJ2_indexOfChar_4cfef r = true := uJ2_indexOfChar_4cfef_0
def tJ2_indexOfSupplementary_4cfef_0 : List (List (Nat × Instr)) := [[(0, .iload_n 1), (1, .invokestatic 164), (4, .ifCond .eq 65), (7, .iload_n 1), (8, .invokestatic 157), (11, .istore 4), (13, .iload_n 1), (14, .invokestatic 161)], [(17, .istore 5), (19, .iload_n 2), (20, .iload_n 3), (21, .aload_n 0), (22, .invokestatic 96), (25, .iload_n 2), (26, .istore 6), (28, .iload 6), (30, .iload_n 3), (31, .iconst 1)], [(32, .isub), (33, .if_icmp .ge 36), (36, .aload_n 0), (37, .iload 6), (39, .invokestatic 71), (42, .iload 4), (44, .if_icmp .ne 19), (47, .aload_n 0)], [(48, .iload 6), (50, .iconst 1), (51, .iadd), (52, .invokestatic 71), (55, .iload 5), (57, .if_icmp .ne 6), (60, .iload 6), (62, .ireturn), (63, .iinc 6 1)], [(66, .goto (-38)), (69, .iconst (-1)), (70, .ireturn)]]
theorem uJ2_indexOfSupplementary_4cfef_0 : ∀ r ∈ tJ2_indexOfSupplementary_4cfef_0, xchk1 cJ2_indexOfSupplementary_4cfef r = true := fun r hr => List.all_eq_true.mp (by decide +kernel : (tJ2_indexOfSupplementary_4cfef_0.all (fun r => xchk1 cJ2_indexOfSupplementary_4cfef r)) = true) r hr
def tJ2_indexOfSupplementary_4cfef : List (List (Nat × Instr)) := tJ2_indexOfSupplementary_4cfef_0
theorem uJ2_indexOfSupplementary_4cfef : ∀ r ∈ tJ2_indexOfSupplementary_4cfef, xchk1 cJ2_indexOfSupplementary_4cfef r = true := uJ2_indexOfSupplementary_4cfef_0
def tJ2_indexOf_4cfef_0 : List (List (Nat × Instr)) := [[(0, .iload_n 2), (1, .iconst 0), (2, .invokestatic 224), (5, .istore_n 2), (6, .iload_n 3), (7, .aload_n 0), (8, .arraylength), (9, .iconst 1), (10, .ishr), (11, .invokestatic 183), (14, .istore_n 3), (15, .iload_n 2)], [(16, .iload_n 3), (17, .if_icmp .lt 5), (20, .iconst (-1)), (21, .ireturn), (22, .iload_n 1), (23, .ldc 227), (25, .if_icmp .ge 11), (28, .aload_n 0), (29, .iload_n 1), (30, .iload_n 2), (31, .iload_n 3)], [(32, .invokestatic 228), (35, .ireturn), (36, .aload_n 0), (37, .iload_n 1), (38, .iload_n 2), (39, .iload_n 3), (40, .invokestatic 232), (43, .ireturn)]]
theorem uJ2_indexOf_4cfef_0 : ∀ r ∈ tJ2_indexOf_4cfef_0, xchk1 cJ2_indexOf_4cfef r = true := fun r hr => List.all_eq_true.mp (by decide +kernel : (tJ2_indexOf_4cfef_0.all (fun r => xchk1 cJ2_indexOf_4cfef r)) = true) r hr
def tJ2_indexOf_4cfef : List (List (Nat × Instr)) := tJ2_indexOf_4cfef_0
theorem uJ2_indexOf_4cfef : ∀ r ∈ tJ2_indexOf_4cfef, xchk1 cJ2_indexOf_4cfef r = true := uJ2_indexOf_4cfef_0
def tJ2_length_9d52b_0 : List (List (Nat × Instr)) := [[(0, .aload_n 0), (1, .arraylength), (2, .iconst 1), (3, .ishr), (4, .ireturn)]]
theorem uJ2_length_9d52b_0 : ∀ r ∈ tJ2_length_9d52b_0, xchk1 cJ2_length_9d52b r = true := fun r hr => List.all_eq_true.mp (by decide +kernel : (tJ2_length_9d52b_0.all (fun r => xchk1 cJ2_length_9d52b r)) = true) r hr
def tJ2_length_9d52b : List (List (Nat × Instr)) := tJ2_length_9d52b_0
theorem uJ2_length_9d52b : ∀ r ∈ tJ2_length_9d52b, xchk1 cJ2_length_9d52b r = true := uJ2_length_9d52b_0
def tJ3_checkFromToIndex_8c36e_0 : List (List (Nat × Instr)) := [[(0, .iload_n 0), (1, .ifCond .lt 13), (4, .iload_n 0), (5, .iload_n 1), (6, .if_icmp .gt 8), (9, .iload_n 1), (10, .iload_n 2), (11, .if_icmp .le 11), (14, .aload_n 3), (15, .iload_n 0)], [(16, .iload_n 1), (17, .iload_n 2), (18, .invokestatic 99), (21, .athrow), (22, .iload_n 0), (23, .ireturn)]]
theorem uJ3_checkFromToIndex_8c36e_0 : ∀ r ∈ tJ3_checkFromToIndex_8c36e_0, xchk1 cJ3_checkFromToIndex_8c36e r = true := fun r hr => List.all_eq_true.mp (by decide +kernel : (tJ3_checkFromToIndex_8c36e_0.all (fun r => xchk1 cJ3_checkFromToIndex_8c36e r)) = true) r hr
def tJ3_checkFromToIndex_8c36e : List (List (Nat × Instr)) := tJ3_checkFromToIndex_8c36e_0
theorem uJ3_checkFromToIndex_8c36e : ∀ r ∈ tJ3_checkFromToIndex_8c36e, xchk1 cJ3_checkFromToIndex_8c36e r = true := uJ3_checkFromToIndex_8c36e_0
def tJ3_checkIndex_8e157_0 : List (List (Nat × Instr)) := [[(0, .iload_n 0), (1, .ifCond .lt 8), (4, .iload_n 0), (5, .iload_n 1), (6, .if_icmp .lt 10), (9, .aload_n 2), (10, .iload_n 0), (11, .iload_n 1), (12, .invokestatic 95), (15, .athrow)], [(16, .iload_n 0), (17, .ireturn)]]
theorem uJ3_checkIndex_8e157_0 : ∀ r ∈ tJ3_checkIndex_8e157_0, xchk1 cJ3_checkIndex_8e157 r = true := fun r hr => List.all_eq_true.mp (by decide +kernel : (tJ3_checkIndex_8e157_0.all (fun r => xchk1 cJ3_checkIndex_8e157 r)) = true) r hr
def tJ3_checkIndex_8e157 : List (List (Nat × Instr)) := tJ3_checkIndex_8e157_0
theorem uJ3_checkIndex_8e157 : ∀ r ∈ tJ3_checkIndex_8e157, xchk1 cJ3_checkIndex_8e157 r = true := uJ3_checkIndex_8e157_0
def tJ11_highSurrogate_5068e_0 : List (List (Nat × Instr)) := [[(0, .iload_n 0), (1, .bipush 10), (3, .iushr), (4, .ldc 110), (6, .iadd), (7, .i2c), (8, .ireturn)]]
theorem uJ11_highSurrogate_5068e_0 : ∀ r ∈ tJ11_highSurrogate_5068e_0, xchk1 cJ11_highSurrogate_5068e r = true := fun r hr => List.all_eq_true.mp (by decide +kernel : (tJ11_highSurrogate_5068e_0.all (fun r => xchk1 cJ11_highSurrogate_5068e r)) = true) r hr
def tJ11_highSurrogate_5068e : List (List (Nat × Instr)) := tJ11_highSurrogate_5068e_0
theorem uJ11_highSurrogate_5068e : ∀ r ∈ tJ11_highSurrogate_5068e, xchk1 cJ11_highSurrogate_5068e r = true := uJ11_highSurrogate_5068e_0
def tJ11_isValidCodePoint_9a6ad_0 : List (List (Nat × Instr)) := [[(0, .iload_n 0), (1, .bipush 16), (3, .iushr), (4, .istore_n 1), (5, .iload_n 1), (6, .bipush 17), (8, .if_icmp .ge 7), (11, .iconst 1), (12, .goto 4), (15, .iconst 0)], [(16, .ireturn)]]
theorem uJ11_isValidCodePoint_9a6ad_0 : ∀ r ∈ tJ11_isValidCodePoint_9a6ad_0, xchk1 cJ11_isValidCodePoint_9a6ad r = true := fun r hr => List.all_eq_true.mp (by decide +kernel : (tJ11_isValidCodePoint_9a6ad_0.all (fun r => xchk1 cJ11_isValidCodePoint_9a6ad r)) = true) r hr
def tJ11_isValidCodePoint_9a6ad : List (List (Nat × Instr)) := tJ11_isValidCodePoint_9a6ad_0
theorem uJ11_isValidCodePoint_9a6ad : ∀ r ∈ tJ11_isValidCodePoint_9a6ad, xchk1 cJ11_isValidCodePoint_9a6ad r = true := uJ11_isValidCodePoint_9a6ad_0
def tJ11_lowSurrogate_5068e_0 : List (List (Nat × Instr)) := [[(0, .iload_n 0), (1, .sipush 1023), (4, .iand), (5, .ldc 76), (7, .iadd), (8, .i2c), (9, .ireturn)]]
theorem uJ11_lowSurrogate_5068e_0 : ∀ r ∈ tJ11_lowSurrogate_5068e_0, xchk1 cJ11_lowSurrogate_5068e r = true := fun r hr => List.all_eq_true.mp (by decide +kernel : (tJ11_lowSurrogate_5068e_0.all (fun r => xchk1 cJ11_lowSurrogate_5068e r)) = true) r hr
def tJ11_lowSurrogate_5068e : List (List (Nat × Instr)) := tJ11_lowSurrogate_5068e_0
theorem uJ11_lowSurrogate_5068e : ∀ r ∈ tJ11_lowSurrogate_5068e, xchk1 cJ11_lowSurrogate_5068e r = true := uJ11_lowSurrogate_5068e_0
