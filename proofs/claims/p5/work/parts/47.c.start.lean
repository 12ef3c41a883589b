theorem cg2 {α : Type} {a b : α} {l m : List α} (h1 : a = b) (h2 : l = m) : a :: l = b :: m := by rw [h1, h2]
/-- the table behind both constructors -/
def s0 : St := fun a k => match a with
  | 29 => if k < 192 then 1 else 0
  | 41 => if k < 192 then 1 else 0
  | 68 => if k < 192 then 1 else 0
  | 52 => if k < 4 then -1 else 0
  | 0 => if k = 10 ∨ k = 12 then 99 else 0
  | 1 => if k = 7 then -1 else 0
  | 50 => if k = 1 then 26 else 0
  | 77 => if k = 9 then 99 else 0
  | _ => 0
theorem xOne_c : xOne = fun k => Int32.ofInt (if k < 192 then 1 else 0) := by
  funext k
  unfold xOne
  split <;> rfl
theorem hc_0 : (.inr (6, [.ref 1, .ref 15, .ref 17, .ref 26, .ref 38, .ref 50, .ref 51, .ref 55, .ref 56, .ref 65, .int 99, .int 0, .int 99, .int 0]) : xE) = cel s0 0 (.inr (6, [.inr 1, .inr 15, .inr 17, .inr 26, .inr 38, .inr 50, .inr 51, .inr 55, .inr 56, .inr 65, .inl 0, .inl 0, .inl 0, .inl 0])) := rfl
theorem hc_1 : (.inr (1, [.ref 2, .int 0, .ref 11, .ref 12, .ref 13, .ref 14, .int 0, .int (-1)]) : xE) = cel s0 1 (.inr (1, [.inr 2, .inl 0, .inr 11, .inr 12, .inr 13, .inr 14, .inl 0, .inl 0])) := rfl
theorem hc_2 : (.inr (4, [.ref 3, .ref 4, .ref 5, .ref 6, .ref 7, .ref 8, .ref 9, .ref 10]) : xE) = cel s0 2 (.inr (4, [.inr 3, .inr 4, .inr 5, .inr 6, .inr 7, .inr 8, .inr 9, .inr 10])) := rfl
theorem hc_3 : ((xI 1) : xE) = cel s0 3 (.inl (0, 1)) := rfl
theorem hc_4 : ((xI 24) : xE) = cel s0 4 (.inl (0, 24)) := rfl
theorem hc_5 : ((xI 24) : xE) = cel s0 5 (.inl (0, 24)) := rfl
theorem hc_6 : ((xI 24) : xE) = cel s0 6 (.inl (0, 24)) := rfl
theorem hc_7 : ((xI 24) : xE) = cel s0 7 (.inl (0, 24)) := rfl
theorem hc_8 : ((xI 24) : xE) = cel s0 8 (.inl (0, 24)) := rfl
theorem hc_9 : ((xI 24) : xE) = cel s0 9 (.inl (0, 24)) := rfl
theorem hc_10 : ((xJ 192) : xE) = cel s0 10 (.inl (1, 192)) := rfl
theorem hc_11 : ((xI 120) : xE) = cel s0 11 (.inl (0, 120)) := rfl
theorem hc_12 : ((xI 121) : xE) = cel s0 12 (.inl (0, 121)) := rfl
theorem hc_13 : ((xI 121) : xE) = cel s0 13 (.inl (0, 121)) := rfl
theorem hc_14 : ((xI 121) : xE) = cel s0 14 (.inl (0, 121)) := rfl
theorem hc_15 : (.inr (0, [.ref 16, .int 0]) : xE) = cel s0 15 (.inr (0, [.inr 16, .inl 0])) := rfl
theorem hc_16 : ((xI 1024) : xE) = cel s0 16 (.inl (0, 1024)) := rfl
theorem hc_17 : (.inr (4, [.ref 18, .ref 19, .ref 20, .ref 21, .ref 22, .ref 23, .ref 24, .ref 25]) : xE) = cel s0 17 (.inr (4, [.inr 18, .inr 19, .inr 20, .inr 21, .inr 22, .inr 23, .inr 24, .inr 25])) := rfl
theorem hc_18 : ((xI 8) : xE) = cel s0 18 (.inl (0, 8)) := rfl
theorem hc_19 : ((xI 192) : xE) = cel s0 19 (.inl (0, 192)) := rfl
theorem hc_20 : ((xI 192) : xE) = cel s0 20 (.inl (0, 192)) := rfl
theorem hc_21 : ((xI 192) : xE) = cel s0 21 (.inl (0, 192)) := rfl
theorem hc_22 : ((xI 192) : xE) = cel s0 22 (.inl (0, 192)) := rfl
theorem hc_23 : ((xI 192) : xE) = cel s0 23 (.inl (0, 192)) := rfl
theorem hc_24 : ((xI 192) : xE) = cel s0 24 (.inl (0, 192)) := rfl
theorem hc_25 : ((xJ 1536) : xE) = cel s0 25 (.inl (1, 1536)) := rfl
theorem hc_26 : (.inr (5, [.ref 27, .ref 28, .ref 29, .ref 30, .ref 31, .ref 32, .ref 33, .ref 34, .ref 35, .ref 36, .ref 37, .int 0]) : xE) = cel s0 26 (.inr (5, [.inr 27, .inr 28, .inr 29, .inr 30, .inr 31, .inr 32, .inr 33, .inr 34, .inr 35, .inr 36, .inr 37, .inl 0])) := rfl
theorem hc_27 : ((xI 192) : xE) = cel s0 27 (.inl (0, 192)) := rfl
theorem hc_28 : ((xI 192) : xE) = cel s0 28 (.inl (0, 192)) := rfl
theorem hc_29 : (.inl (.int, 192, .inl xOne) : xE) = cel s0 29 (.inl (0, 192)) := by
  show (Sum.inl (.int, 192, .inl xOne) : xE) = Sum.inl (.int, 192, .inl (fun k => Int32.ofInt (if k < 192 then 1 else 0)))
  rw [xOne_c]
theorem hc_30 : ((xZ 192) : xE) = cel s0 30 (.inl (3, 192)) := rfl
theorem hc_31 : ((xI 192) : xE) = cel s0 31 (.inl (0, 192)) := rfl
theorem hc_32 : ((xI 192) : xE) = cel s0 32 (.inl (0, 192)) := rfl
theorem hc_33 : ((xB 12288) : xE) = cel s0 33 (.inl (2, 12288)) := rfl
theorem hc_34 : ((xJ 12288) : xE) = cel s0 34 (.inl (1, 12288)) := rfl
theorem hc_35 : ((xB 12288) : xE) = cel s0 35 (.inl (2, 12288)) := rfl
theorem hc_36 : ((xZ 192) : xE) = cel s0 36 (.inl (3, 192)) := rfl
theorem hc_37 : ((xI 192) : xE) = cel s0 37 (.inl (0, 192)) := rfl
theorem hc_38 : (.inr (5, [.ref 39, .ref 40, .ref 41, .ref 42, .ref 43, .ref 44, .ref 45, .ref 46, .ref 47, .ref 48, .ref 49, .int 0]) : xE) = cel s0 38 (.inr (5, [.inr 39, .inr 40, .inr 41, .inr 42, .inr 43, .inr 44, .inr 45, .inr 46, .inr 47, .inr 48, .inr 49, .inl 0])) := rfl
theorem hc_39 : ((xI 192) : xE) = cel s0 39 (.inl (0, 192)) := rfl
theorem hc_40 : ((xI 192) : xE) = cel s0 40 (.inl (0, 192)) := rfl
theorem hc_41 : (.inl (.int, 192, .inl xOne) : xE) = cel s0 41 (.inl (0, 192)) := by
  show (Sum.inl (.int, 192, .inl xOne) : xE) = Sum.inl (.int, 192, .inl (fun k => Int32.ofInt (if k < 192 then 1 else 0)))
  rw [xOne_c]
theorem hc_42 : ((xZ 192) : xE) = cel s0 42 (.inl (3, 192)) := rfl
theorem hc_43 : ((xI 192) : xE) = cel s0 43 (.inl (0, 192)) := rfl
theorem hc_44 : ((xI 192) : xE) = cel s0 44 (.inl (0, 192)) := rfl
theorem hc_45 : ((xB 12288) : xE) = cel s0 45 (.inl (2, 12288)) := rfl
theorem hc_46 : ((xJ 12288) : xE) = cel s0 46 (.inl (1, 12288)) := rfl
theorem hc_47 : ((xB 12288) : xE) = cel s0 47 (.inl (2, 12288)) := rfl
theorem hc_48 : ((xZ 192) : xE) = cel s0 48 (.inl (3, 192)) := rfl
theorem hc_49 : ((xI 192) : xE) = cel s0 49 (.inl (0, 192)) := rfl
theorem hc_50 : (.inr (3, [.ref 17, .ref 26, .int 0, .int 0, .long 0]) : xE) = cel s0 50 (.inr (3, [.inr 17, .inl 2, .inl 0, .inl 0, .inl 1])) := rfl
theorem hc_51 : (.inr (2, [.ref 52, .ref 53, .ref 54]) : xE) = cel s0 51 (.inr (2, [.inr 52, .inr 53, .inr 54])) := rfl
theorem s52_c : (upd (upd (upd (upd (fun _ => 0) 0 (-1)) 1 (-1)) 2 (-1)) 3 (-1)) = fun k => Int32.ofInt (if k < 4 then -1 else 0) := by
  funext k
  match k with
  | 0 => rfl
  | 1 => rfl
  | 2 => rfl
  | 3 => rfl
  | k + 4 => 
    rw [if_neg (by omega)]
    rfl
theorem hc_52 : (.inl (.int, 4, .inl (upd (upd (upd (upd (fun _ => 0) 0 (-1)) 1 (-1)) 2 (-1)) 3 (-1))) : xE) = cel s0 52 (.inl (0, 4)) := by
  show (Sum.inl (.int, 4, .inl (upd (upd (upd (upd (fun _ => 0) 0 (-1)) 1 (-1)) 2 (-1)) 3 (-1))) : xE) = Sum.inl (.int, 4, .inl (fun k => Int32.ofInt (if k < 4 then -1 else 0)))
  rw [s52_c]
theorem hc_53 : ((xI 4) : xE) = cel s0 53 (.inl (0, 4)) := rfl
theorem hc_54 : ((xJ 160) : xE) = cel s0 54 (.inl (1, 160)) := rfl
theorem hc_55 : ((xJ 16) : xE) = cel s0 55 (.inl (1, 16)) := rfl
theorem hc_56 : (.inr (4, [.ref 57, .ref 58, .ref 59, .ref 60, .ref 61, .ref 62, .ref 63, .ref 64]) : xE) = cel s0 56 (.inr (4, [.inr 57, .inr 58, .inr 59, .inr 60, .inr 61, .inr 62, .inr 63, .inr 64])) := rfl
theorem hc_57 : ((xI 8) : xE) = cel s0 57 (.inl (0, 8)) := rfl
theorem hc_58 : ((xI 192) : xE) = cel s0 58 (.inl (0, 192)) := rfl
theorem hc_59 : ((xI 192) : xE) = cel s0 59 (.inl (0, 192)) := rfl
theorem hc_60 : ((xI 192) : xE) = cel s0 60 (.inl (0, 192)) := rfl
theorem hc_61 : ((xI 192) : xE) = cel s0 61 (.inl (0, 192)) := rfl
theorem hc_62 : ((xI 192) : xE) = cel s0 62 (.inl (0, 192)) := rfl
theorem hc_63 : ((xI 192) : xE) = cel s0 63 (.inl (0, 192)) := rfl
theorem hc_64 : ((xJ 1536) : xE) = cel s0 64 (.inl (1, 1536)) := rfl
theorem hc_65 : (.inr (5, [.ref 66, .ref 67, .ref 68, .ref 69, .ref 70, .ref 71, .ref 72, .ref 73, .ref 74, .ref 75, .ref 76, .int 0]) : xE) = cel s0 65 (.inr (5, [.inr 66, .inr 67, .inr 68, .inr 69, .inr 70, .inr 71, .inr 72, .inr 73, .inr 74, .inr 75, .inr 76, .inl 0])) := rfl
theorem hc_66 : ((xI 192) : xE) = cel s0 66 (.inl (0, 192)) := rfl
theorem hc_67 : ((xI 192) : xE) = cel s0 67 (.inl (0, 192)) := rfl
theorem hc_68 : (.inl (.int, 192, .inl xOne) : xE) = cel s0 68 (.inl (0, 192)) := by
  show (Sum.inl (.int, 192, .inl xOne) : xE) = Sum.inl (.int, 192, .inl (fun k => Int32.ofInt (if k < 192 then 1 else 0)))
  rw [xOne_c]
theorem hc_69 : ((xZ 192) : xE) = cel s0 69 (.inl (3, 192)) := rfl
theorem hc_70 : ((xI 192) : xE) = cel s0 70 (.inl (0, 192)) := rfl
theorem hc_71 : ((xI 192) : xE) = cel s0 71 (.inl (0, 192)) := rfl
theorem hc_72 : ((xB 12288) : xE) = cel s0 72 (.inl (2, 12288)) := rfl
theorem hc_73 : ((xJ 12288) : xE) = cel s0 73 (.inl (1, 12288)) := rfl
theorem hc_74 : ((xB 12288) : xE) = cel s0 74 (.inl (2, 12288)) := rfl
theorem hc_75 : ((xZ 192) : xE) = cel s0 75 (.inl (3, 192)) := rfl
theorem hc_76 : ((xI 192) : xE) = cel s0 76 (.inl (0, 192)) := rfl
theorem hc_77 : (.inr (7, [.int 0, .ref 78, .ref 79, .ref 80, .ref 81, .ref 82, .ref 83, .ref 84, .ref 85, .int 99, .ref 86, .ref 87, .ref 88, .ref 89, .ref 90, .ref 91, .ref 92, .ref 93, .ref 94, .int 0, .int 0, .int 0, .int 0, .int 0, .int 0, .int 0, .int 0, .ref 95, .ref 96, .ref 97, .ref 98, .ref 99, .ref 100, .ref 101, .ref 102, .int 0, .int 0, .int 0, .long 0, .int 0, .ref 103, .ref 104, .ref 105, .ref 106, .ref 107, .ref 108, .ref 109, .ref 110, .ref 111, .ref 112, .ref 113, .ref 114, .ref 115, .ref 116, .ref 117, .ref 118, .ref 119, .ref 120, .ref 121, .ref 122, .ref 123, .ref 124, .ref 125, .int 0, .int 0, .ref 126, .ref 127, .ref 128, .ref 129]) : xE) = cel s0 77 (.inr (7, [.inl 0, .inr 78, .inr 79, .inr 80, .inr 81, .inr 82, .inr 83, .inr 84, .inr 85, .inl 0, .inr 86, .inr 87, .inr 88, .inr 89, .inr 90, .inr 91, .inr 92, .inr 93, .inr 94, .inl 0, .inl 0, .inl 0, .inl 0, .inl 0, .inl 0, .inl 0, .inl 0, .inr 95, .inr 96, .inr 97, .inr 98, .inr 99, .inr 100, .inr 101, .inr 102, .inl 0, .inl 0, .inl 0, .inl 1, .inl 0, .inr 103, .inr 104, .inr 105, .inr 106, .inr 107, .inr 108, .inr 109, .inr 110, .inr 111, .inr 112, .inr 113, .inr 114, .inr 115, .inr 116, .inr 117, .inr 118, .inr 119, .inr 120, .inr 121, .inr 122, .inr 123, .inr 124, .inr 125, .inl 0, .inl 0, .inr 126, .inr 127, .inr 128, .inr 129])) := rfl
theorem hc_78 : ((xI 8) : xE) = cel s0 78 (.inl (0, 8)) := rfl
theorem hc_79 : ((xI 192) : xE) = cel s0 79 (.inl (0, 192)) := rfl
theorem hc_80 : ((xI 192) : xE) = cel s0 80 (.inl (0, 192)) := rfl
theorem hc_81 : ((xI 192) : xE) = cel s0 81 (.inl (0, 192)) := rfl
theorem hc_82 : ((xJ 192) : xE) = cel s0 82 (.inl (1, 192)) := rfl
theorem hc_83 : ((xJ 192) : xE) = cel s0 83 (.inl (1, 192)) := rfl
theorem hc_84 : ((xI 192) : xE) = cel s0 84 (.inl (0, 192)) := rfl
theorem hc_85 : ((xJ 1536) : xE) = cel s0 85 (.inl (1, 1536)) := rfl
theorem hc_86 : ((xI 192) : xE) = cel s0 86 (.inl (0, 192)) := rfl
theorem hc_87 : ((xI 192) : xE) = cel s0 87 (.inl (0, 192)) := rfl
theorem hc_88 : ((xZ 192) : xE) = cel s0 88 (.inl (3, 192)) := rfl
theorem hc_89 : ((xI 192) : xE) = cel s0 89 (.inl (0, 192)) := rfl
theorem hc_90 : ((xI 192) : xE) = cel s0 90 (.inl (0, 192)) := rfl
theorem hc_91 : ((xI 12288) : xE) = cel s0 91 (.inl (0, 12288)) := rfl
theorem hc_92 : ((xJ 12288) : xE) = cel s0 92 (.inl (1, 12288)) := rfl
theorem hc_93 : ((xI 12288) : xE) = cel s0 93 (.inl (0, 12288)) := rfl
theorem hc_94 : ((xI 120) : xE) = cel s0 94 (.inl (0, 120)) := rfl
theorem hc_95 : ((xI 24) : xE) = cel s0 95 (.inl (0, 24)) := rfl
theorem hc_96 : ((xI 24) : xE) = cel s0 96 (.inl (0, 24)) := rfl
theorem hc_97 : ((xI 24) : xE) = cel s0 97 (.inl (0, 24)) := rfl
theorem hc_98 : ((xJ 24) : xE) = cel s0 98 (.inl (1, 24)) := rfl
theorem hc_99 : ((xJ 24) : xE) = cel s0 99 (.inl (1, 24)) := rfl
theorem hc_100 : ((xI 24) : xE) = cel s0 100 (.inl (0, 24)) := rfl
theorem hc_101 : ((xJ 192) : xE) = cel s0 101 (.inl (1, 192)) := rfl
theorem hc_102 : ((xI 4096) : xE) = cel s0 102 (.inl (0, 4096)) := rfl
theorem hc_103 : ((xI 192) : xE) = cel s0 103 (.inl (0, 192)) := rfl
theorem hc_104 : ((xI 192) : xE) = cel s0 104 (.inl (0, 192)) := rfl
theorem hc_105 : ((xI 192) : xE) = cel s0 105 (.inl (0, 192)) := rfl
theorem hc_106 : ((xI 192) : xE) = cel s0 106 (.inl (0, 192)) := rfl
theorem hc_107 : ((xI 12288) : xE) = cel s0 107 (.inl (0, 12288)) := rfl
theorem hc_108 : ((xJ 12288) : xE) = cel s0 108 (.inl (1, 12288)) := rfl
theorem hc_109 : ((xI 12288) : xE) = cel s0 109 (.inl (0, 12288)) := rfl
theorem hc_110 : ((xJ 16) : xE) = cel s0 110 (.inl (1, 16)) := rfl
theorem hc_111 : ((xI 8) : xE) = cel s0 111 (.inl (0, 8)) := rfl
theorem hc_112 : ((xI 192) : xE) = cel s0 112 (.inl (0, 192)) := rfl
theorem hc_113 : ((xI 192) : xE) = cel s0 113 (.inl (0, 192)) := rfl
theorem hc_114 : ((xI 192) : xE) = cel s0 114 (.inl (0, 192)) := rfl
theorem hc_115 : ((xJ 192) : xE) = cel s0 115 (.inl (1, 192)) := rfl
theorem hc_116 : ((xJ 192) : xE) = cel s0 116 (.inl (1, 192)) := rfl
theorem hc_117 : ((xI 192) : xE) = cel s0 117 (.inl (0, 192)) := rfl
theorem hc_118 : ((xJ 1536) : xE) = cel s0 118 (.inl (1, 1536)) := rfl
theorem hc_119 : ((xI 192) : xE) = cel s0 119 (.inl (0, 192)) := rfl
theorem hc_120 : ((xI 192) : xE) = cel s0 120 (.inl (0, 192)) := rfl
theorem hc_121 : ((xI 192) : xE) = cel s0 121 (.inl (0, 192)) := rfl
theorem hc_122 : ((xI 192) : xE) = cel s0 122 (.inl (0, 192)) := rfl
theorem hc_123 : ((xI 12288) : xE) = cel s0 123 (.inl (0, 12288)) := rfl
theorem hc_124 : ((xJ 12288) : xE) = cel s0 124 (.inl (1, 12288)) := rfl
theorem hc_125 : ((xI 12288) : xE) = cel s0 125 (.inl (0, 12288)) := rfl
theorem hc_126 : ((xZ 4) : xE) = cel s0 126 (.inl (3, 4)) := rfl
theorem hc_127 : ((xI 4) : xE) = cel s0 127 (.inl (0, 4)) := rfl
theorem hc_128 : ((xI 4) : xE) = cel s0 128 (.inl (0, 4)) := rfl
theorem hc_129 : ((xJ 160) : xE) = cel s0 129 (.inl (1, 160)) := rfl
set_option maxRecDepth 100000 in
theorem s0_heap : ([.inr (6, [.ref 1, .ref 15, .ref 17, .ref 26, .ref 38, .ref 50, .ref 51, .ref 55, .ref 56, .ref 65, .int 99, .int 0, .int 99, .int 0]), .inr (1, [.ref 2, .int 0, .ref 11, .ref 12, .ref 13, .ref 14, .int 0, .int (-1)]), .inr (4, [.ref 3, .ref 4, .ref 5, .ref 6, .ref 7, .ref 8, .ref 9, .ref 10]), (xI 1), (xI 24), (xI 24), (xI 24), (xI 24), (xI 24), (xI 24), (xJ 192), (xI 120), (xI 121), (xI 121), (xI 121), .inr (0, [.ref 16, .int 0]), (xI 1024), .inr (4, [.ref 18, .ref 19, .ref 20, .ref 21, .ref 22, .ref 23, .ref 24, .ref 25]), (xI 8), (xI 192), (xI 192), (xI 192), (xI 192), (xI 192), (xI 192), (xJ 1536), .inr (5, [.ref 27, .ref 28, .ref 29, .ref 30, .ref 31, .ref 32, .ref 33, .ref 34, .ref 35, .ref 36, .ref 37, .int 0]), (xI 192), (xI 192), .inl (.int, 192, .inl xOne), (xZ 192), (xI 192), (xI 192), (xB 12288), (xJ 12288), (xB 12288), (xZ 192), (xI 192), .inr (5, [.ref 39, .ref 40, .ref 41, .ref 42, .ref 43, .ref 44, .ref 45, .ref 46, .ref 47, .ref 48, .ref 49, .int 0]), (xI 192), (xI 192), .inl (.int, 192, .inl xOne), (xZ 192), (xI 192), (xI 192), (xB 12288), (xJ 12288), (xB 12288), (xZ 192), (xI 192), .inr (3, [.ref 17, .ref 26, .int 0, .int 0, .long 0]), .inr (2, [.ref 52, .ref 53, .ref 54]), .inl (.int, 4, .inl (upd (upd (upd (upd (fun _ => 0) 0 (-1)) 1 (-1)) 2 (-1)) 3 (-1))), (xI 4), (xJ 160), (xJ 16), .inr (4, [.ref 57, .ref 58, .ref 59, .ref 60, .ref 61, .ref 62, .ref 63, .ref 64]), (xI 8), (xI 192), (xI 192), (xI 192), (xI 192), (xI 192), (xI 192), (xJ 1536), .inr (5, [.ref 66, .ref 67, .ref 68, .ref 69, .ref 70, .ref 71, .ref 72, .ref 73, .ref 74, .ref 75, .ref 76, .int 0]), (xI 192), (xI 192), .inl (.int, 192, .inl xOne), (xZ 192), (xI 192), (xI 192), (xB 12288), (xJ 12288), (xB 12288), (xZ 192), (xI 192), .inr (7, [.int 0, .ref 78, .ref 79, .ref 80, .ref 81, .ref 82, .ref 83, .ref 84, .ref 85, .int 99, .ref 86, .ref 87, .ref 88, .ref 89, .ref 90, .ref 91, .ref 92, .ref 93, .ref 94, .int 0, .int 0, .int 0, .int 0, .int 0, .int 0, .int 0, .int 0, .ref 95, .ref 96, .ref 97, .ref 98, .ref 99, .ref 100, .ref 101, .ref 102, .int 0, .int 0, .int 0, .long 0, .int 0, .ref 103, .ref 104, .ref 105, .ref 106, .ref 107, .ref 108, .ref 109, .ref 110, .ref 111, .ref 112, .ref 113, .ref 114, .ref 115, .ref 116, .ref 117, .ref 118, .ref 119, .ref 120, .ref 121, .ref 122, .ref 123, .ref 124, .ref 125, .int 0, .int 0, .ref 126, .ref 127, .ref 128, .ref 129]), (xI 8), (xI 192), (xI 192), (xI 192), (xJ 192), (xJ 192), (xI 192), (xJ 1536), (xI 192), (xI 192), (xZ 192), (xI 192), (xI 192), (xI 12288), (xJ 12288), (xI 12288), (xI 120), (xI 24), (xI 24), (xI 24), (xJ 24), (xJ 24), (xI 24), (xJ 192), (xI 4096), (xI 192), (xI 192), (xI 192), (xI 192), (xI 12288), (xJ 12288), (xI 12288), (xJ 16), (xI 8), (xI 192), (xI 192), (xI 192), (xJ 192), (xJ 192), (xI 192), (xJ 1536), (xI 192), (xI 192), (xI 192), (xI 192), (xI 12288), (xJ 12288), (xI 12288), (xZ 4), (xI 4), (xI 4), (xJ 160)] : xH) = hp s0 := (cg2 hc_0 (cg2 hc_1 (cg2 hc_2 (cg2 hc_3 (cg2 hc_4 (cg2 hc_5 (cg2 hc_6 (cg2 hc_7 (cg2 hc_8 (cg2 hc_9 (cg2 hc_10 (cg2 hc_11 (cg2 hc_12 (cg2 hc_13 (cg2 hc_14 (cg2 hc_15 (cg2 hc_16 (cg2 hc_17 (cg2 hc_18 (cg2 hc_19 (cg2 hc_20 (cg2 hc_21 (cg2 hc_22 (cg2 hc_23 (cg2 hc_24 (cg2 hc_25 (cg2 hc_26 (cg2 hc_27 (cg2 hc_28 (cg2 hc_29 (cg2 hc_30 (cg2 hc_31 (cg2 hc_32 (cg2 hc_33 (cg2 hc_34 (cg2 hc_35 (cg2 hc_36 (cg2 hc_37 (cg2 hc_38 (cg2 hc_39 (cg2 hc_40 (cg2 hc_41 (cg2 hc_42 (cg2 hc_43 (cg2 hc_44 (cg2 hc_45 (cg2 hc_46 (cg2 hc_47 (cg2 hc_48 (cg2 hc_49 (cg2 hc_50 (cg2 hc_51 (cg2 hc_52 (cg2 hc_53 (cg2 hc_54 (cg2 hc_55 (cg2 hc_56 (cg2 hc_57 (cg2 hc_58 (cg2 hc_59 (cg2 hc_60 (cg2 hc_61 (cg2 hc_62 (cg2 hc_63 (cg2 hc_64 (cg2 hc_65 (cg2 hc_66 (cg2 hc_67 (cg2 hc_68 (cg2 hc_69 (cg2 hc_70 (cg2 hc_71 (cg2 hc_72 (cg2 hc_73 (cg2 hc_74 (cg2 hc_75 (cg2 hc_76 (cg2 hc_77 (cg2 hc_78 (cg2 hc_79 (cg2 hc_80 (cg2 hc_81 (cg2 hc_82 (cg2 hc_83 (cg2 hc_84 (cg2 hc_85 (cg2 hc_86 (cg2 hc_87 (cg2 hc_88 (cg2 hc_89 (cg2 hc_90 (cg2 hc_91 (cg2 hc_92 (cg2 hc_93 (cg2 hc_94 (cg2 hc_95 (cg2 hc_96 (cg2 hc_97 (cg2 hc_98 (cg2 hc_99 (cg2 hc_100 (cg2 hc_101 (cg2 hc_102 (cg2 hc_103 (cg2 hc_104 (cg2 hc_105 (cg2 hc_106 (cg2 hc_107 (cg2 hc_108 (cg2 hc_109 (cg2 hc_110 (cg2 hc_111 (cg2 hc_112 (cg2 hc_113 (cg2 hc_114 (cg2 hc_115 (cg2 hc_116 (cg2 hc_117 (cg2 hc_118 (cg2 hc_119 (cg2 hc_120 (cg2 hc_121 (cg2 hc_122 (cg2 hc_123 (cg2 hc_124 (cg2 hc_125 (cg2 hc_126 (cg2 hc_127 (cg2 hc_128 (cg2 hc_129 rfl))))))))))))))))))))))))))))))))))))))))))))))))))))))))))))))))))))))))))))))))))))))))))))))))))))))))))))))))))))))))))))))))))
