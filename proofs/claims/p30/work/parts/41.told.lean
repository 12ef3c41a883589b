theorem f62_15 : xFld xg 62 15 = some (4, 1) := by decide +kernel
theorem f62_18 : xFld xg 62 18 = some (4, 2) := by decide +kernel
theorem f62_21 : xFld xg 62 21 = some (4, 3) := by decide +kernel
theorem f62_24 : xFld xg 62 24 = some (4, 4) := by decide +kernel
theorem f62_30 : xFld xg 62 30 = some (4, 6) := by decide +kernel
theorem i62_0 : xIns xg 62 0 = some (.aload_n 0) := by decide +kernel
theorem i62_1 : xIns xg 62 1 = some (.getfield 15) := by decide +kernel
theorem i62_4 : xIns xg 62 4 = some (.iload_n 1) := by decide +kernel
theorem i62_5 : xIns xg 62 5 = some (.iload_n 2) := by decide +kernel
theorem i62_6 : xIns xg 62 6 = some (.iastore) := by decide +kernel
theorem i62_7 : xIns xg 62 7 = some (.aload_n 0) := by decide +kernel
theorem i62_8 : xIns xg 62 8 = some (.getfield 18) := by decide +kernel
theorem i62_11 : xIns xg 62 11 = some (.iload_n 1) := by decide +kernel
theorem i62_12 : xIns xg 62 12 = some (.iconst 0) := by decide +kernel
theorem i62_13 : xIns xg 62 13 = some (.iastore) := by decide +kernel
theorem i62_14 : xIns xg 62 14 = some (.aload_n 0) := by decide +kernel
theorem i62_15 : xIns xg 62 15 = some (.getfield 21) := by decide +kernel
theorem i62_18 : xIns xg 62 18 = some (.iload_n 1) := by decide +kernel
theorem i62_19 : xIns xg 62 19 = some (.iconst 0) := by decide +kernel
theorem i62_20 : xIns xg 62 20 = some (.iastore) := by decide +kernel
theorem i62_21 : xIns xg 62 21 = some (.aload_n 0) := by decide +kernel
theorem i62_22 : xIns xg 62 22 = some (.getfield 24) := by decide +kernel
theorem i62_25 : xIns xg 62 25 = some (.iload_n 1) := by decide +kernel
theorem i62_26 : xIns xg 62 26 = some (.iconst 0) := by decide +kernel
theorem i62_27 : xIns xg 62 27 = some (.iastore) := by decide +kernel
theorem i62_28 : xIns xg 62 28 = some (.aload_n 0) := by decide +kernel
theorem i62_29 : xIns xg 62 29 = some (.getfield 30) := by decide +kernel
theorem i62_32 : xIns xg 62 32 = some (.iload_n 1) := by decide +kernel
theorem i62_33 : xIns xg 62 33 = some (.iconst 0) := by decide +kernel
theorem i62_34 : xIns xg 62 34 = some (.iastore) := by decide +kernel
theorem i62_35 : xIns xg 62 35 = some (.return_) := by decide +kernel
theorem m62 : (xMet xg 62).2.2 = (3, none) := by decide +kernel
def d_x5_clearPart (N : Nat) (t : Nat) (u : Nat)  (s : St) (a0 : Int) (a1 : Int) : Option Rs :=
  if 0 ≤ (w32 a0) ∧ (w32 a0) < ((u * 24 : Nat) : Int) then bd (up s (t + 2) (Int.toNat (w32 a0)) a1) fun s1 => if 0 ≤ (w32 a0) ∧ (w32 a0) < ((u * 24 : Nat) : Int) then bd (up s1 (t + 3) (Int.toNat (w32 a0)) 0) fun s2 => if 0 ≤ (w32 a0) ∧ (w32 a0) < ((u * 24 : Nat) : Int) then bd (up s2 (t + 4) (Int.toNat (w32 a0)) 0) fun s3 => if 0 ≤ (w32 a0) ∧ (w32 a0) < ((u * 24 : Nat) : Int) then bd (up s3 (t + 5) (Int.toNat (w32 a0)) 0) fun s4 => if 0 ≤ (w32 a0) ∧ (w32 a0) < ((u * 24 : Nat) : Int) then bd (up s4 (t + 7) (Int.toNat (w32 a0)) 0) fun s5 => some (s5, 0) else none else none else none else none else none
set_option maxHeartbeats 4000000 in
set_option maxRecDepth 100000 in
theorem c_x5_clearPart {sc : xS} {d : Nat} {R : Rs} (N : Nat) (t : Nat) (u : Nat) (H : isTexts t u) (hd : 0 ≤ d)   (s : St) (a0 : Int) (a1 : Int) : d_x5_clearPart N t u  s a0 a1 = some R → vT sc d 62 0 [(0, .ref t), (1, vi a0), (2, vi a1)] [] s (fun r => r = qV R) := by
  unfold d_x5_clearPart
  refine vLan 1 i62_0 rfl rfl ?_
  refine vGetC 4 i62_1 f62_15 (texts_0 H) rfl rfl ?_
  refine vLin 5 i62_4 rfl rfl ?_
  refine vLin 6 i62_5 rfl rfl ?_
  refine vIas 7 rfl i62_6 (texts_2 H) rfl (fun s1 => ?_)
  refine vLan 8 i62_7 rfl rfl ?_
  refine vGetC 11 i62_8 f62_18 (texts_0 H) rfl rfl ?_
  refine vLin 12 i62_11 rfl rfl ?_
  refine vK 13 i62_12 rfl ?_
  refine vIas 14 rfl i62_13 (texts_3 H) rfl (fun s2 => ?_)
  refine vLan 15 i62_14 rfl rfl ?_
  refine vGetC 18 i62_15 f62_21 (texts_0 H) rfl rfl ?_
  refine vLin 19 i62_18 rfl rfl ?_
  refine vK 20 i62_19 rfl ?_
  refine vIas 21 rfl i62_20 (texts_4 H) rfl (fun s3 => ?_)
  refine vLan 22 i62_21 rfl rfl ?_
  refine vGetC 25 i62_22 f62_24 (texts_0 H) rfl rfl ?_
  refine vLin 26 i62_25 rfl rfl ?_
  refine vK 27 i62_26 rfl ?_
  refine vIas 28 rfl i62_27 (texts_5 H) rfl (fun s4 => ?_)
  refine vLan 29 i62_28 rfl rfl ?_
  refine vGetC 32 i62_29 f62_30 (texts_0 H) rfl rfl ?_
  refine vLin 33 i62_32 rfl rfl ?_
  refine vK 34 i62_33 rfl ?_
  refine vIas 35 rfl i62_34 (texts_7 H) rfl (fun s5 => ?_)
  exact vR0 i62_35 m62
theorem f63_9 : xFld xg 63 9 = some (4, 0) := by decide +kernel
theorem f63_15 : xFld xg 63 15 = some (4, 1) := by decide +kernel
theorem f63_27 : xFld xg 63 27 = some (4, 5) := by decide +kernel
theorem i63_82 : xIns xg 63 82 = some (.aload_n 0) := by decide +kernel
theorem i63_83 : xIns xg 63 83 = some (.getfield 27) := by decide +kernel
theorem i63_86 : xIns xg 63 86 = some (.iload 4) := by decide +kernel
theorem i63_88 : xIns xg 63 88 = some (.iload 6) := by decide +kernel
theorem i63_90 : xIns xg 63 90 = some (.iastore) := by decide +kernel
theorem i63_91 : xIns xg 63 91 = some (.iinc 4 (-1)) := by decide +kernel
theorem m63 : (xMet xg 63).2.2 = (8, none) := by decide +kernel
theorem i63_94 : xIns xg 63 94 = some (.goto (-75)) := by decide +kernel
theorem i63_43 : xIns xg 63 43 = some (.iload 7) := by decide +kernel
theorem i63_45 : xIns xg 63 45 = some (.iload 5) := by decide +kernel
theorem i63_47 : xIns xg 63 47 = some (.if_icmp .ge 35) := by decide +kernel
theorem i63_50 : xIns xg 63 50 = some (.iload 4) := by decide +kernel
theorem i63_52 : xIns xg 63 52 = some (.iload 6) := by decide +kernel
theorem i63_54 : xIns xg 63 54 = some (.iadd) := by decide +kernel
theorem i63_55 : xIns xg 63 55 = some (.iload_n 3) := by decide +kernel
theorem i63_56 : xIns xg 63 56 = some (.iload_n 2) := by decide +kernel
theorem i63_57 : xIns xg 63 57 = some (.iadd) := by decide +kernel
theorem i63_58 : xIns xg 63 58 = some (.if_icmp .ge 24) := by decide +kernel
theorem i63_61 : xIns xg 63 61 = some (.iload 6) := by decide +kernel
theorem i63_63 : xIns xg 63 63 = some (.aload_n 0) := by decide +kernel
theorem i63_64 : xIns xg 63 64 = some (.getfield 27) := by decide +kernel
theorem i63_67 : xIns xg 63 67 = some (.iload 4) := by decide +kernel
theorem i63_69 : xIns xg 63 69 = some (.iload 6) := by decide +kernel
theorem i63_71 : xIns xg 63 71 = some (.iadd) := by decide +kernel
theorem i63_72 : xIns xg 63 72 = some (.iaload) := by decide +kernel
theorem i63_73 : xIns xg 63 73 = some (.iadd) := by decide +kernel
theorem i63_74 : xIns xg 63 74 = some (.istore 6) := by decide +kernel
theorem i63_76 : xIns xg 63 76 = some (.iinc 7 1) := by decide +kernel
theorem i63_79 : xIns xg 63 79 = some (.goto (-36)) := by decide +kernel
theorem i63_19 : xIns xg 63 19 = some (.iload 4) := by decide +kernel
theorem i63_21 : xIns xg 63 21 = some (.iload_n 3) := by decide +kernel
theorem i63_22 : xIns xg 63 22 = some (.if_icmp .lt 75) := by decide +kernel
theorem i63_97 : xIns xg 63 97 = some (.return_) := by decide +kernel
theorem i63_25 : xIns xg 63 25 = some (.aload_n 0) := by decide +kernel
theorem i63_26 : xIns xg 63 26 = some (.getfield 15) := by decide +kernel
theorem i63_29 : xIns xg 63 29 = some (.iload 4) := by decide +kernel
theorem i63_31 : xIns xg 63 31 = some (.iaload) := by decide +kernel
theorem i63_32 : xIns xg 63 32 = some (.invokestatic 37) := by decide +kernel
theorem i63_35 : xIns xg 63 35 = some (.istore 5) := by decide +kernel
theorem i63_37 : xIns xg 63 37 = some (.iconst 1) := by decide +kernel
theorem i63_38 : xIns xg 63 38 = some (.istore 6) := by decide +kernel
theorem i63_40 : xIns xg 63 40 = some (.iconst 0) := by decide +kernel
theorem i63_41 : xIns xg 63 41 = some (.istore 7) := by decide +kernel
theorem i63_0 : xIns xg 63 0 = some (.aload_n 0) := by decide +kernel
theorem i63_1 : xIns xg 63 1 = some (.getfield 9) := by decide +kernel
theorem i63_4 : xIns xg 63 4 = some (.iload_n 1) := by decide +kernel
theorem i63_5 : xIns xg 63 5 = some (.iload_n 2) := by decide +kernel
theorem i63_6 : xIns xg 63 6 = some (.iastore) := by decide +kernel
theorem i63_7 : xIns xg 63 7 = some (.iload_n 1) := by decide +kernel
theorem i63_8 : xIns xg 63 8 = some (.bipush 24) := by decide +kernel
theorem i63_10 : xIns xg 63 10 = some (.imul) := by decide +kernel
theorem i63_11 : xIns xg 63 11 = some (.istore_n 3) := by decide +kernel
theorem i63_12 : xIns xg 63 12 = some (.iload_n 3) := by decide +kernel
theorem i63_13 : xIns xg 63 13 = some (.iload_n 2) := by decide +kernel
theorem i63_14 : xIns xg 63 14 = some (.iadd) := by decide +kernel
theorem i63_15 : xIns xg 63 15 = some (.iconst 1) := by decide +kernel
theorem i63_16 : xIns xg 63 16 = some (.isub) := by decide +kernel
theorem i63_17 : xIns xg 63 17 = some (.istore 4) := by decide +kernel
def d_x5_close_82 (N : Nat) (t : Nat) (u : Nat) (k19 : St → Int → Int → Int → Option Rs) (s : St) (x2 : Int) (x3 : Int) (x4 : Int) (x6 : Int) : Option Rs :=
  if 0 ≤ (w32 x4) ∧ (w32 x4) < ((u * 24 : Nat) : Int) then bd (up s (t + 6) (Int.toNat (w32 x4)) x6) fun s1 => bd (x4 + (-1)) fun v2 => k19 s1 x2 x3 v2 else none
set_option maxHeartbeats 4000000 in
set_option maxRecDepth 100000 in
theorem c_x5_close_82 {sc : xS} {d : Nat} {R : Rs} (N : Nat) (t : Nat) (u : Nat) (H : isTexts t u) (hd : 1 ≤ d) (k19 : St → Int → Int → Int → Option Rs) (hk19 : ∀ (s : St) (x2 : Int) (x3 : Int) (x4 : Int), k19 s x2 x3 x4 = some R → vT sc d 63 19 [(0, .ref t), (2, vi x2), (3, vi x3), (4, vi x4)] [] s (fun r => r = qV R))  (s : St) (x2 : Int) (x3 : Int) (x4 : Int) (x6 : Int) : d_x5_close_82 N t u k19 s x2 x3 x4 x6 = some R → vT sc d 63 82 [(0, .ref t), (2, vi x2), (3, vi x3), (4, vi x4), (6, vi x6)] [] s (fun r => r = qV R) := by
  obtain ⟨d, rfl⟩ : ∃ d', d = d' + 1 := ⟨d - 1, by omega⟩
  unfold d_x5_close_82
  refine vLan 83 i63_82 rfl rfl ?_
  refine vGetC 86 i63_83 f63_27 (texts_0 H) rfl rfl ?_
  refine vLi 88 i63_86 rfl rfl ?_
  refine vLi 90 i63_88 rfl rfl ?_
  refine vIas 91 rfl i63_90 (texts_6 H) rfl (fun s1 => ?_)
  refine vInc 94 (fun v2 => [(4, vi v2), (0, .ref t), (2, vi x2), (3, vi x3), (6, vi x6)]) i63_91 m63 (by decide) rfl (fun _ => rfl) rfl (fun v2 => ?_)
  refine vGo 19 i63_94 rfl ?_
  exact fun hD => tLc [(0, .ref t), (2, vi x2), (3, vi x3), (4, vi v2)] (xNdk [0, 2, 3, 4] rfl (by decide)) (xNdk [4, 0, 2, 3, 6] rfl (by decide)) ⟨rfl, rfl, rfl, rfl, trivial⟩ (hk19 s1 x2 x3 v2 hD)
def d_x5_close_43 (N : Nat) (t : Nat) (u : Nat) (k19 : St → Int → Int → Int → Option Rs) (k43 : St → Int → Int → Int → Int → Int → Int → Option Rs) (s : St) (x2 : Int) (x3 : Int) (x4 : Int) (x5 : Int) (x6 : Int) (x7 : Int) : Option Rs :=
  (if (w32 x7) < (w32 x5) then (if (w32 (x4 + x6)) < (w32 (x3 + x2)) then if 0 ≤ (w32 (x4 + x6)) ∧ (w32 (x4 + x6)) < ((u * 24 : Nat) : Int) then bd (x6 + (s (t + 6) (Int.toNat (w32 (x4 + x6))))) fun v3 => bd (x7 + 1) fun v4 => k43 s x2 x3 x4 x5 v3 v4 else none else d_x5_close_82 N t u k19 s x2 x3 x4 x6) else d_x5_close_82 N t u k19 s x2 x3 x4 x6)
def d_x5_close_43L (N : Nat) (t : Nat) (u : Nat) (k19 : St → Int → Int → Int → Option Rs) : Nat → St → Int → Int → Int → Int → Int → Int → Option Rs
  | 0 => fun _ _ _ _ _ _ _ => none
  | n + 1 => d_x5_close_43 N t u k19 (d_x5_close_43L N t u k19 n)
set_option maxHeartbeats 4000000 in
set_option maxRecDepth 100000 in
theorem c_x5_close_43 {sc : xS} {d : Nat} {R : Rs} (N : Nat) (t : Nat) (u : Nat) (H : isTexts t u) (hd : 1 ≤ d) (k19 : St → Int → Int → Int → Option Rs) (hk19 : ∀ (s : St) (x2 : Int) (x3 : Int) (x4 : Int), k19 s x2 x3 x4 = some R → vT sc d 63 19 [(0, .ref t), (2, vi x2), (3, vi x3), (4, vi x4)] [] s (fun r => r = qV R))  (k43 : St → Int → Int → Int → Int → Int → Int → Option Rs) (hk43 : ∀ (s : St) (x2 : Int) (x3 : Int) (x4 : Int) (x5 : Int) (x6 : Int) (x7 : Int), k43 s x2 x3 x4 x5 x6 x7 = some R → vT sc d 63 43 [(0, .ref t), (2, vi x2), (3, vi x3), (4, vi x4), (5, vi x5), (6, vi x6), (7, vi x7)] [] s (fun r => r = qV R)) (s : St) (x2 : Int) (x3 : Int) (x4 : Int) (x5 : Int) (x6 : Int) (x7 : Int) : d_x5_close_43 N t u k19 k43 s x2 x3 x4 x5 x6 x7 = some R → vT sc d 63 43 [(0, .ref t), (2, vi x2), (3, vi x3), (4, vi x4), (5, vi x5), (6, vi x6), (7, vi x7)] [] s (fun r => r = qV R) := by
  obtain ⟨d, rfl⟩ : ∃ d', d = d' + 1 := ⟨d - 1, by omega⟩
  unfold d_x5_close_43
  refine vLi 45 i63_43 rfl rfl ?_
  refine vLi 47 i63_45 rfl rfl ?_
  refine vCge 82 50 rfl rfl i63_47 rfl rfl ?_ ?_
  · exact fun hD => tLc [(0, .ref t), (2, vi x2), (3, vi x3), (4, vi x4), (6, vi x6)] (xNdk [0, 2, 3, 4, 6] rfl (by decide)) (xNdk [0, 2, 3, 4, 5, 6, 7] rfl (by decide)) ⟨rfl, rfl, rfl, rfl, rfl, trivial⟩ (c_x5_close_82 N t u H hd k19 hk19 s x2 x3 x4 x6 hD)
  · refine vLi 52 i63_50 rfl rfl ?_
    refine vLi 54 i63_52 rfl rfl ?_
    refine vIadd 55 i63_54 rfl ?_
    refine vLin 56 i63_55 rfl rfl ?_
    refine vLin 57 i63_56 rfl rfl ?_
    refine vIadd 58 i63_57 rfl ?_
    refine vCge 82 61 rfl rfl i63_58 rfl rfl ?_ ?_
    · exact fun hD => tLc [(0, .ref t), (2, vi x2), (3, vi x3), (4, vi x4), (6, vi x6)] (xNdk [0, 2, 3, 4, 6] rfl (by decide)) (xNdk [0, 2, 3, 4, 5, 6, 7] rfl (by decide)) ⟨rfl, rfl, rfl, rfl, rfl, trivial⟩ (c_x5_close_82 N t u H hd k19 hk19 s x2 x3 x4 x6 hD)
    · refine vLi 63 i63_61 rfl rfl ?_
      refine vLan 64 i63_63 rfl rfl ?_
      refine vGetC 67 i63_64 f63_27 (texts_0 H) rfl rfl ?_
      refine vLi 69 i63_67 rfl rfl ?_
      refine vLi 71 i63_69 rfl rfl ?_
      refine vIadd 72 i63_71 rfl ?_
      refine vIal 73 rfl i63_72 (texts_6 H) rfl ?_
      refine vIadd 74 i63_73 rfl ?_
      refine vSi 76 (fun v3 => [(6, vi v3), (0, .ref t), (2, vi x2), (3, vi x3), (4, vi x4), (5, vi x5), (7, vi x7)]) i63_74 m63 (by decide) (fun v3 => (rfl : xst1 [(0, .ref t), (2, vi x2), (3, vi x3), (4, vi x4), (5, vi x5), (6, vi x6), (7, vi x7)] 6 (vi v3) = [(6, vi v3), (0, .ref t), (2, vi x2), (3, vi x3), (4, vi x4), (5, vi x5), (7, vi x7)])) rfl (fun v3 => ?_)
      refine vInc 79 (fun v4 => [(7, vi v4), (6, vi v3), (0, .ref t), (2, vi x2), (3, vi x3), (4, vi x4), (5, vi x5)]) i63_76 m63 (by decide) rfl (fun _ => rfl) rfl (fun v4 => ?_)
      refine vGo 43 i63_79 rfl ?_
      exact fun hD => tLc [(0, .ref t), (2, vi x2), (3, vi x3), (4, vi x4), (5, vi x5), (6, vi v3), (7, vi v4)] (xNdk [0, 2, 3, 4, 5, 6, 7] rfl (by decide)) (xNdk [7, 6, 0, 2, 3, 4, 5] rfl (by decide)) ⟨rfl, rfl, rfl, rfl, rfl, rfl, rfl, trivial⟩ (hk43 s x2 x3 x4 x5 v3 v4 hD)
theorem c_x5_close_43L {sc : xS} {d : Nat} {R : Rs} (N : Nat) (t : Nat) (u : Nat) (H : isTexts t u) (hd : 1 ≤ d) (k19 : St → Int → Int → Int → Option Rs) (hk19 : ∀ (s : St) (x2 : Int) (x3 : Int) (x4 : Int), k19 s x2 x3 x4 = some R → vT sc d 63 19 [(0, .ref t), (2, vi x2), (3, vi x3), (4, vi x4)] [] s (fun r => r = qV R))  : ∀ (n : Nat) (s : St) (x2 : Int) (x3 : Int) (x4 : Int) (x5 : Int) (x6 : Int) (x7 : Int), d_x5_close_43L N t u k19 n s x2 x3 x4 x5 x6 x7 = some R → vT sc d 63 43 [(0, .ref t), (2, vi x2), (3, vi x3), (4, vi x4), (5, vi x5), (6, vi x6), (7, vi x7)] [] s (fun r => r = qV R) := by
  intro n
  induction n with
  | zero => intro s x2 x3 x4 x5 x6 x7 hD; cases hD
  | succ n ih => intro s x2 x3 x4 x5 x6 x7 hD; exact c_x5_close_43 N t u H hd k19 hk19 _ ih s x2 x3 x4 x5 x6 x7 hD
def d_x5_close_19 (N : Nat) (t : Nat) (u : Nat)  (k19 : St → Int → Int → Int → Option Rs) (s : St) (x2 : Int) (x3 : Int) (x4 : Int) : Option Rs :=
  (if (w32 x4) < (w32 x3) then some (s, 0) else if 0 ≤ (w32 x4) ∧ (w32 x4) < ((u * 24 : Nat) : Int) then bI (d_x0_rows N  s (s (t + 2) (Int.toNat (w32 x4)))) fun s5 v6 => d_x5_close_43L N t u k19 N s5 x2 x3 x4 v6 1 0 else none)
def d_x5_close_19L (N : Nat) (t : Nat) (u : Nat)  : Nat → St → Int → Int → Int → Option Rs
  | 0 => fun _ _ _ _ => none
  | n + 1 => d_x5_close_19 N t u  (d_x5_close_19L N t u  n)
set_option maxHeartbeats 4000000 in
set_option maxRecDepth 100000 in
theorem c_x5_close_19 {sc : xS} {d : Nat} {R : Rs} (N : Nat) (t : Nat) (u : Nat) (H : isTexts t u) (hd : 1 ≤ d)   (k19 : St → Int → Int → Int → Option Rs) (hk19 : ∀ (s : St) (x2 : Int) (x3 : Int) (x4 : Int), k19 s x2 x3 x4 = some R → vT sc d 63 19 [(0, .ref t), (2, vi x2), (3, vi x3), (4, vi x4)] [] s (fun r => r = qV R)) (s : St) (x2 : Int) (x3 : Int) (x4 : Int) : d_x5_close_19 N t u  k19 s x2 x3 x4 = some R → vT sc d 63 19 [(0, .ref t), (2, vi x2), (3, vi x3), (4, vi x4)] [] s (fun r => r = qV R) := by
  obtain ⟨d, rfl⟩ : ∃ d', d = d' + 1 := ⟨d - 1, by omega⟩
  unfold d_x5_close_19
  refine vLi 21 i63_19 rfl rfl ?_
  refine vLin 22 i63_21 rfl rfl ?_
  refine vClt 97 25 rfl rfl i63_22 rfl rfl ?_ ?_
  · exact vR0 i63_97 m63
  · refine vLan 26 i63_25 rfl rfl ?_
    refine vGetC 29 i63_26 f63_15 (texts_0 H) rfl rfl ?_
    refine vLi 31 i63_29 rfl rfl ?_
    refine vIal 32 rfl i63_31 (texts_2 H) rfl ?_
    refine vCallI 35 [vi (s (t + 2) (Int.toNat (w32 x4)))] [] [(0, vi (s (t + 2) (Int.toNat (w32 x4))))] i63_32 rfl (xlk1 l63_37) (Or.inr (Or.inl rfl)) m3 rfl rfl (Nat.le_of_ble_eq_true rfl) (Nat.le_of_ble_eq_true rfl) (Nat.le_of_ble_eq_true rfl) rfl rfl rfl (fun R1 => c_x0_rows N   (by omega) s (s (t + 2) (Int.toNat (w32 x4)))) (fun s5 v6 => ?_)
    refine vSi0 37 [(5, vi v6), (0, .ref t), (2, vi x2), (3, vi x3), (4, vi x4)] i63_35 m63 (by decide) rfl rfl ?_
    refine vK 38 i63_37 rfl ?_
    refine vSi0 40 [(6, vi 1), (5, vi v6), (0, .ref t), (2, vi x2), (3, vi x3), (4, vi x4)] i63_38 m63 (by decide) rfl rfl ?_
    refine vK 41 i63_40 rfl ?_
    refine vSi0 43 [(7, vi 0), (6, vi 1), (5, vi v6), (0, .ref t), (2, vi x2), (3, vi x3), (4, vi x4)] i63_41 m63 (by decide) rfl rfl ?_
    exact fun hD => tLc [(0, .ref t), (2, vi x2), (3, vi x3), (4, vi x4), (5, vi v6), (6, vi 1), (7, vi 0)] (xNdk [0, 2, 3, 4, 5, 6, 7] rfl (by decide)) (xNdk [7, 6, 5, 0, 2, 3, 4] rfl (by decide)) ⟨rfl, rfl, rfl, rfl, rfl, rfl, rfl, trivial⟩ (c_x5_close_43L N t u H hd k19 hk19 N s5 x2 x3 x4 v6 1 0 hD)
theorem c_x5_close_19L {sc : xS} {d : Nat} {R : Rs} (N : Nat) (t : Nat) (u : Nat) (H : isTexts t u) (hd : 1 ≤ d)   : ∀ (n : Nat) (s : St) (x2 : Int) (x3 : Int) (x4 : Int), d_x5_close_19L N t u  n s x2 x3 x4 = some R → vT sc d 63 19 [(0, .ref t), (2, vi x2), (3, vi x3), (4, vi x4)] [] s (fun r => r = qV R) := by
  intro n
  induction n with
  | zero => intro s x2 x3 x4 hD; cases hD
  | succ n ih => intro s x2 x3 x4 hD; exact c_x5_close_19 N t u H hd  _ ih s x2 x3 x4 hD
def d_x5_close (N : Nat) (t : Nat) (u : Nat)  (s : St) (a0 : Int) (a1 : Int) : Option Rs :=
  if 0 ≤ (w32 a0) ∧ (w32 a0) < ((u : Nat) : Int) then bd (up s (t + 1) (Int.toNat (w32 a0)) a1) fun s7 => bd (a0 * 24) fun v8 => bd ((v8 + a1) - 1) fun v9 => d_x5_close_19L N t u  N s7 a1 v8 v9 else none
set_option maxHeartbeats 4000000 in
set_option maxRecDepth 100000 in
theorem c_x5_close {sc : xS} {d : Nat} {R : Rs} (N : Nat) (t : Nat) (u : Nat) (H : isTexts t u) (hd : 1 ≤ d)   (s : St) (a0 : Int) (a1 : Int) : d_x5_close N t u  s a0 a1 = some R → vT sc d 63 0 [(0, .ref t), (1, vi a0), (2, vi a1)] [] s (fun r => r = qV R) := by
  obtain ⟨d, rfl⟩ : ∃ d', d = d' + 1 := ⟨d - 1, by omega⟩
  unfold d_x5_close
  refine vLan 1 i63_0 rfl rfl ?_
  refine vGetC 4 i63_1 f63_9 (texts_0 H) rfl rfl ?_
  refine vLin 5 i63_4 rfl rfl ?_
  refine vLin 6 i63_5 rfl rfl ?_
  refine vIas 7 rfl i63_6 (texts_1 H) rfl (fun s7 => ?_)
  refine vLin 8 i63_7 rfl rfl ?_
  refine vKb 10 i63_8 (by decide) rfl ?_
  refine vImul 11 i63_10 rfl ?_
  refine vSin 12 (fun v8 => [(3, vi v8), (0, .ref t), (1, vi a0), (2, vi a1)]) i63_11 m63 (by decide) (fun v8 => (rfl : xst1 [(0, .ref t), (1, vi a0), (2, vi a1)] 3 (vi v8) = [(3, vi v8), (0, .ref t), (1, vi a0), (2, vi a1)])) rfl (fun v8 => ?_)
  refine vLin 13 i63_12 rfl rfl ?_
  refine vLin 14 i63_13 rfl rfl ?_
  refine vIadd 15 i63_14 rfl ?_
  refine vK 16 i63_15 rfl ?_
  refine vIsub 17 i63_16 rfl ?_
  refine vSi 19 (fun v9 => [(4, vi v9), (3, vi v8), (0, .ref t), (1, vi a0), (2, vi a1)]) i63_17 m63 (by decide) (fun v9 => (rfl : xst1 [(3, vi v8), (0, .ref t), (1, vi a0), (2, vi a1)] 4 (vi v9) = [(4, vi v9), (3, vi v8), (0, .ref t), (1, vi a0), (2, vi a1)])) rfl (fun v9 => ?_)
  exact fun hD => tLc [(0, .ref t), (2, vi a1), (3, vi v8), (4, vi v9)] (xNdk [0, 2, 3, 4] rfl (by decide)) (xNdk [4, 3, 0, 1, 2] rfl (by decide)) ⟨rfl, rfl, rfl, rfl, trivial⟩ (c_x5_close_19L N t u H hd  N s7 a1 v8 v9 hD)
theorem f69_15 : xFld xg 69 15 = some (4, 1) := by decide +kernel
theorem f69_18 : xFld xg 69 18 = some (4, 2) := by decide +kernel
theorem f69_21 : xFld xg 69 21 = some (4, 3) := by decide +kernel
theorem f69_24 : xFld xg 69 24 = some (4, 4) := by decide +kernel
theorem f69_27 : xFld xg 69 27 = some (4, 5) := by decide +kernel
theorem f69_30 : xFld xg 69 30 = some (4, 6) := by decide +kernel
theorem f69_33 : xFld xg 69 33 = some (4, 7) := by decide +kernel
theorem i69_0 : xIns xg 69 0 = some (.aload_n 1) := by decide +kernel
theorem i69_1 : xIns xg 69 1 = some (.getfield 15) := by decide +kernel
theorem i69_4 : xIns xg 69 4 = some (.iload_n 2) := by decide +kernel
theorem i69_5 : xIns xg 69 5 = some (.aload_n 0) := by decide +kernel
theorem i69_6 : xIns xg 69 6 = some (.getfield 15) := by decide +kernel
theorem i69_9 : xIns xg 69 9 = some (.iload_n 3) := by decide +kernel
theorem i69_10 : xIns xg 69 10 = some (.iload 4) := by decide +kernel
theorem i69_12 : xIns xg 69 12 = some (.invokestatic 51) := by decide +kernel
theorem i69_15 : xIns xg 69 15 = some (.aload_n 1) := by decide +kernel
theorem i69_16 : xIns xg 69 16 = some (.getfield 18) := by decide +kernel
theorem i69_19 : xIns xg 69 19 = some (.iload_n 2) := by decide +kernel
theorem i69_20 : xIns xg 69 20 = some (.aload_n 0) := by decide +kernel
theorem i69_21 : xIns xg 69 21 = some (.getfield 18) := by decide +kernel
theorem i69_24 : xIns xg 69 24 = some (.iload_n 3) := by decide +kernel
theorem i69_25 : xIns xg 69 25 = some (.iload 4) := by decide +kernel
theorem i69_27 : xIns xg 69 27 = some (.invokestatic 51) := by decide +kernel
theorem i69_30 : xIns xg 69 30 = some (.aload_n 1) := by decide +kernel
theorem i69_31 : xIns xg 69 31 = some (.getfield 21) := by decide +kernel
theorem i69_34 : xIns xg 69 34 = some (.iload_n 2) := by decide +kernel
theorem i69_35 : xIns xg 69 35 = some (.aload_n 0) := by decide +kernel
theorem i69_36 : xIns xg 69 36 = some (.getfield 21) := by decide +kernel
theorem i69_39 : xIns xg 69 39 = some (.iload_n 3) := by decide +kernel
theorem i69_40 : xIns xg 69 40 = some (.iload 4) := by decide +kernel
theorem i69_42 : xIns xg 69 42 = some (.invokestatic 51) := by decide +kernel
theorem i69_45 : xIns xg 69 45 = some (.aload_n 1) := by decide +kernel
theorem i69_46 : xIns xg 69 46 = some (.getfield 24) := by decide +kernel
theorem i69_49 : xIns xg 69 49 = some (.iload_n 2) := by decide +kernel
theorem i69_50 : xIns xg 69 50 = some (.aload_n 0) := by decide +kernel
theorem i69_51 : xIns xg 69 51 = some (.getfield 24) := by decide +kernel
theorem i69_54 : xIns xg 69 54 = some (.iload_n 3) := by decide +kernel
theorem i69_55 : xIns xg 69 55 = some (.iload 4) := by decide +kernel
theorem i69_57 : xIns xg 69 57 = some (.invokestatic 51) := by decide +kernel
theorem i69_60 : xIns xg 69 60 = some (.aload_n 1) := by decide +kernel
theorem i69_61 : xIns xg 69 61 = some (.getfield 27) := by decide +kernel
theorem i69_64 : xIns xg 69 64 = some (.iload_n 2) := by decide +kernel
theorem i69_65 : xIns xg 69 65 = some (.aload_n 0) := by decide +kernel
theorem i69_66 : xIns xg 69 66 = some (.getfield 27) := by decide +kernel
theorem i69_69 : xIns xg 69 69 = some (.iload_n 3) := by decide +kernel
theorem i69_70 : xIns xg 69 70 = some (.iload 4) := by decide +kernel
theorem i69_72 : xIns xg 69 72 = some (.invokestatic 51) := by decide +kernel
theorem i69_75 : xIns xg 69 75 = some (.aload_n 1) := by decide +kernel
theorem i69_76 : xIns xg 69 76 = some (.getfield 30) := by decide +kernel
theorem i69_79 : xIns xg 69 79 = some (.iload_n 2) := by decide +kernel
theorem i69_80 : xIns xg 69 80 = some (.aload_n 0) := by decide +kernel
theorem i69_81 : xIns xg 69 81 = some (.getfield 30) := by decide +kernel
theorem i69_84 : xIns xg 69 84 = some (.iload_n 3) := by decide +kernel
theorem i69_85 : xIns xg 69 85 = some (.iload 4) := by decide +kernel
theorem i69_87 : xIns xg 69 87 = some (.invokestatic 51) := by decide +kernel
theorem i69_90 : xIns xg 69 90 = some (.aload_n 1) := by decide +kernel
theorem i69_91 : xIns xg 69 91 = some (.getfield 33) := by decide +kernel
theorem i69_94 : xIns xg 69 94 = some (.iload_n 2) := by decide +kernel
theorem i69_95 : xIns xg 69 95 = some (.bipush 8) := by decide +kernel
theorem i69_97 : xIns xg 69 97 = some (.imul) := by decide +kernel
theorem i69_98 : xIns xg 69 98 = some (.aload_n 0) := by decide +kernel
theorem i69_99 : xIns xg 69 99 = some (.getfield 33) := by decide +kernel
theorem i69_102 : xIns xg 69 102 = some (.iload_n 3) := by decide +kernel
theorem i69_103 : xIns xg 69 103 = some (.bipush 8) := by decide +kernel
theorem i69_105 : xIns xg 69 105 = some (.imul) := by decide +kernel
theorem i69_106 : xIns xg 69 106 = some (.iload 4) := by decide +kernel
theorem i69_108 : xIns xg 69 108 = some (.bipush 8) := by decide +kernel
theorem i69_110 : xIns xg 69 110 = some (.imul) := by decide +kernel
theorem i69_111 : xIns xg 69 111 = some (.invokestatic 51) := by decide +kernel
theorem i69_114 : xIns xg 69 114 = some (.return_) := by decide +kernel
theorem m69 : (xMet xg 69).2.2 = (5, none) := by decide +kernel
def d_x5_takeParts (N : Nat) (t : Nat) (u : Nat) (t2 : Nat) (u2 : Nat)  (s : St) (a1 : Int) (a2 : Int) (a3 : Int) : Option Rs :=
  if 0 ≤ (w32 a3) ∧ 0 ≤ (w32 a1) ∧ 0 ≤ (w32 a2) ∧ (w32 a1) + (w32 a3) ≤ ((u2 * 24 : Nat) : Int) ∧ (w32 a2) + (w32 a3) ≤ ((u * 24 : Nat) : Int) then bd (cp s (t2 + 2) (Int.toNat (w32 a1)) (t + 2) (Int.toNat (w32 a2)) (Int.toNat (w32 a3))) fun s1 => if 0 ≤ (w32 a3) ∧ 0 ≤ (w32 a1) ∧ 0 ≤ (w32 a2) ∧ (w32 a1) + (w32 a3) ≤ ((u2 * 24 : Nat) : Int) ∧ (w32 a2) + (w32 a3) ≤ ((u * 24 : Nat) : Int) then bd (cp s1 (t2 + 3) (Int.toNat (w32 a1)) (t + 3) (Int.toNat (w32 a2)) (Int.toNat (w32 a3))) fun s2 => if 0 ≤ (w32 a3) ∧ 0 ≤ (w32 a1) ∧ 0 ≤ (w32 a2) ∧ (w32 a1) + (w32 a3) ≤ ((u2 * 24 : Nat) : Int) ∧ (w32 a2) + (w32 a3) ≤ ((u * 24 : Nat) : Int) then bd (cp s2 (t2 + 4) (Int.toNat (w32 a1)) (t + 4) (Int.toNat (w32 a2)) (Int.toNat (w32 a3))) fun s3 => if 0 ≤ (w32 a3) ∧ 0 ≤ (w32 a1) ∧ 0 ≤ (w32 a2) ∧ (w32 a1) + (w32 a3) ≤ ((u2 * 24 : Nat) : Int) ∧ (w32 a2) + (w32 a3) ≤ ((u * 24 : Nat) : Int) then bd (cp s3 (t2 + 5) (Int.toNat (w32 a1)) (t + 5) (Int.toNat (w32 a2)) (Int.toNat (w32 a3))) fun s4 => if 0 ≤ (w32 a3) ∧ 0 ≤ (w32 a1) ∧ 0 ≤ (w32 a2) ∧ (w32 a1) + (w32 a3) ≤ ((u2 * 24 : Nat) : Int) ∧ (w32 a2) + (w32 a3) ≤ ((u * 24 : Nat) : Int) then bd (cp s4 (t2 + 6) (Int.toNat (w32 a1)) (t + 6) (Int.toNat (w32 a2)) (Int.toNat (w32 a3))) fun s5 => if 0 ≤ (w32 a3) ∧ 0 ≤ (w32 a1) ∧ 0 ≤ (w32 a2) ∧ (w32 a1) + (w32 a3) ≤ ((u2 * 24 : Nat) : Int) ∧ (w32 a2) + (w32 a3) ≤ ((u * 24 : Nat) : Int) then bd (cp s5 (t2 + 7) (Int.toNat (w32 a1)) (t + 7) (Int.toNat (w32 a2)) (Int.toNat (w32 a3))) fun s6 => if 0 ≤ (w32 (a3 * 8)) ∧ 0 ≤ (w32 (a1 * 8)) ∧ 0 ≤ (w32 (a2 * 8)) ∧ (w32 (a1 * 8)) + (w32 (a3 * 8)) ≤ ((u2 * 192 : Nat) : Int) ∧ (w32 (a2 * 8)) + (w32 (a3 * 8)) ≤ ((u * 192 : Nat) : Int) then bd (cp s6 (t2 + 8) (Int.toNat (w32 (a1 * 8))) (t + 8) (Int.toNat (w32 (a2 * 8))) (Int.toNat (w32 (a3 * 8)))) fun s7 => some (s7, 0) else none else none else none else none else none else none else none
set_option maxHeartbeats 4000000 in
set_option maxRecDepth 100000 in
theorem c_x5_takeParts {sc : xS} {d : Nat} {R : Rs} (N : Nat) (t : Nat) (u : Nat) (t2 : Nat) (u2 : Nat) (H : isTexts t u) (H2 : isTexts t2 u2) (hd : 1 ≤ d)   (s : St) (a1 : Int) (a2 : Int) (a3 : Int) : d_x5_takeParts N t u t2 u2  s a1 a2 a3 = some R → vT sc d 69 0 [(0, .ref t), (1, .ref t2), (2, vi a1), (3, vi a2), (4, vi a3)] [] s (fun r => r = qV R) := by
  obtain ⟨d, rfl⟩ : ∃ d', d = d' + 1 := ⟨d - 1, by omega⟩
  unfold d_x5_takeParts
  refine vLan 1 i69_0 rfl rfl ?_
  refine vGetC 4 i69_1 f69_15 (texts_0 H2) rfl rfl ?_
  refine vLin 5 i69_4 rfl rfl ?_
  refine vLan 6 i69_5 rfl rfl ?_
  refine vGetC 9 i69_6 f69_15 (texts_0 H) rfl rfl ?_
  refine vLin 10 i69_9 rfl rfl ?_
  refine vLi 12 i69_10 rfl rfl ?_
  refine vCpI 15 rfl rfl rfl i69_12 l69_51 (texts_2 H2) (texts_2 H) (Nat.le_of_ble_eq_true rfl) rfl (fun s1 => ?_)
  refine vLan 16 i69_15 rfl rfl ?_
  refine vGetC 19 i69_16 f69_18 (texts_0 H2) rfl rfl ?_
  refine vLin 20 i69_19 rfl rfl ?_
  refine vLan 21 i69_20 rfl rfl ?_
  refine vGetC 24 i69_21 f69_18 (texts_0 H) rfl rfl ?_
  refine vLin 25 i69_24 rfl rfl ?_
  refine vLi 27 i69_25 rfl rfl ?_
  refine vCpI 30 rfl rfl rfl i69_27 l69_51 (texts_3 H2) (texts_3 H) (Nat.le_of_ble_eq_true rfl) rfl (fun s2 => ?_)
  refine vLan 31 i69_30 rfl rfl ?_
  refine vGetC 34 i69_31 f69_21 (texts_0 H2) rfl rfl ?_
  refine vLin 35 i69_34 rfl rfl ?_
  refine vLan 36 i69_35 rfl rfl ?_
  refine vGetC 39 i69_36 f69_21 (texts_0 H) rfl rfl ?_
  refine vLin 40 i69_39 rfl rfl ?_
  refine vLi 42 i69_40 rfl rfl ?_
  refine vCpI 45 rfl rfl rfl i69_42 l69_51 (texts_4 H2) (texts_4 H) (Nat.le_of_ble_eq_true rfl) rfl (fun s3 => ?_)
  refine vLan 46 i69_45 rfl rfl ?_
  refine vGetC 49 i69_46 f69_24 (texts_0 H2) rfl rfl ?_
  refine vLin 50 i69_49 rfl rfl ?_
  refine vLan 51 i69_50 rfl rfl ?_
  refine vGetC 54 i69_51 f69_24 (texts_0 H) rfl rfl ?_
  refine vLin 55 i69_54 rfl rfl ?_
  refine vLi 57 i69_55 rfl rfl ?_
  refine vCpI 60 rfl rfl rfl i69_57 l69_51 (texts_5 H2) (texts_5 H) (Nat.le_of_ble_eq_true rfl) rfl (fun s4 => ?_)
  refine vLan 61 i69_60 rfl rfl ?_
  refine vGetC 64 i69_61 f69_27 (texts_0 H2) rfl rfl ?_
  refine vLin 65 i69_64 rfl rfl ?_
  refine vLan 66 i69_65 rfl rfl ?_
  refine vGetC 69 i69_66 f69_27 (texts_0 H) rfl rfl ?_
  refine vLin 70 i69_69 rfl rfl ?_
  refine vLi 72 i69_70 rfl rfl ?_
  refine vCpI 75 rfl rfl rfl i69_72 l69_51 (texts_6 H2) (texts_6 H) (Nat.le_of_ble_eq_true rfl) rfl (fun s5 => ?_)
  refine vLan 76 i69_75 rfl rfl ?_
  refine vGetC 79 i69_76 f69_30 (texts_0 H2) rfl rfl ?_
  refine vLin 80 i69_79 rfl rfl ?_
  refine vLan 81 i69_80 rfl rfl ?_
  refine vGetC 84 i69_81 f69_30 (texts_0 H) rfl rfl ?_
  refine vLin 85 i69_84 rfl rfl ?_
  refine vLi 87 i69_85 rfl rfl ?_
  refine vCpI 90 rfl rfl rfl i69_87 l69_51 (texts_7 H2) (texts_7 H) (Nat.le_of_ble_eq_true rfl) rfl (fun s6 => ?_)
  refine vLan 91 i69_90 rfl rfl ?_
  refine vGetC 94 i69_91 f69_33 (texts_0 H2) rfl rfl ?_
  refine vLin 95 i69_94 rfl rfl ?_
  refine vKb 97 i69_95 (by decide) rfl ?_
  refine vImul 98 i69_97 rfl ?_
  refine vLan 99 i69_98 rfl rfl ?_
  refine vGetC 102 i69_99 f69_33 (texts_0 H) rfl rfl ?_
  refine vLin 103 i69_102 rfl rfl ?_
  refine vKb 105 i69_103 (by decide) rfl ?_
  refine vImul 106 i69_105 rfl ?_
  refine vLi 108 i69_106 rfl rfl ?_
  refine vKb 110 i69_108 (by decide) rfl ?_
  refine vImul 111 i69_110 rfl ?_
  refine vCpL 114 rfl rfl rfl i69_111 l69_51 (texts_8 H2) (texts_8 H) (Nat.le_of_ble_eq_true rfl) rfl (fun s7 => ?_)
  exact vR0 i69_114 m69
theorem f70_9 : xFld xg 70 9 = some (4, 0) := by decide +kernel
theorem i70_0 : xIns xg 70 0 = some (.aload_n 0) := by decide +kernel
theorem i70_1 : xIns xg 70 1 = some (.getfield 9) := by decide +kernel
theorem i70_4 : xIns xg 70 4 = some (.iload_n 3) := by decide +kernel
theorem i70_5 : xIns xg 70 5 = some (.aload_n 1) := by decide +kernel
theorem i70_6 : xIns xg 70 6 = some (.getfield 9) := by decide +kernel
theorem i70_9 : xIns xg 70 9 = some (.iload_n 2) := by decide +kernel
theorem i70_10 : xIns xg 70 10 = some (.iaload) := by decide +kernel
theorem i70_11 : xIns xg 70 11 = some (.iastore) := by decide +kernel
theorem i70_12 : xIns xg 70 12 = some (.aload_n 0) := by decide +kernel
theorem i70_13 : xIns xg 70 13 = some (.aload_n 1) := by decide +kernel
theorem i70_14 : xIns xg 70 14 = some (.iload_n 2) := by decide +kernel
theorem i70_15 : xIns xg 70 15 = some (.bipush 24) := by decide +kernel
theorem i70_17 : xIns xg 70 17 = some (.imul) := by decide +kernel
theorem i70_18 : xIns xg 70 18 = some (.iload_n 3) := by decide +kernel
theorem i70_19 : xIns xg 70 19 = some (.bipush 24) := by decide +kernel
theorem i70_21 : xIns xg 70 21 = some (.imul) := by decide +kernel
theorem i70_22 : xIns xg 70 22 = some (.aload_n 0) := by decide +kernel
theorem i70_23 : xIns xg 70 23 = some (.getfield 9) := by decide +kernel
theorem i70_26 : xIns xg 70 26 = some (.iload_n 3) := by decide +kernel
theorem i70_27 : xIns xg 70 27 = some (.iaload) := by decide +kernel
theorem i70_28 : xIns xg 70 28 = some (.invokevirtual 43) := by decide +kernel
theorem i70_31 : xIns xg 70 31 = some (.return_) := by decide +kernel
theorem m70 : (xMet xg 70).2.2 = (4, none) := by decide +kernel
def d_x5_takeStream (N : Nat) (t : Nat) (u : Nat) (t2 : Nat) (u2 : Nat)  (s : St) (a1 : Int) (a2 : Int) : Option Rs :=
  if 0 ≤ (w32 a1) ∧ (w32 a1) < ((u2 : Nat) : Int) then if 0 ≤ (w32 a2) ∧ (w32 a2) < ((u : Nat) : Int) then bd (up s (t + 1) (Int.toNat (w32 a2)) (s (t2 + 1) (Int.toNat (w32 a1)))) fun s1 => if 0 ≤ (w32 a2) ∧ (w32 a2) < ((u : Nat) : Int) then bV (d_x5_takeParts N t u t2 u2 s1 (a1 * 24) (a2 * 24) (s1 (t + 1) (Int.toNat (w32 a2)))) fun s2 => some (s2, 0) else none else none else none
set_option maxHeartbeats 4000000 in
set_option maxRecDepth 100000 in
theorem c_x5_takeStream {sc : xS} {d : Nat} {R : Rs} (N : Nat) (t : Nat) (u : Nat) (t2 : Nat) (u2 : Nat) (H : isTexts t u) (H2 : isTexts t2 u2) (hd : 2 ≤ d)   (s : St) (a1 : Int) (a2 : Int) : d_x5_takeStream N t u t2 u2  s a1 a2 = some R → vT sc d 70 0 [(0, .ref t), (1, .ref t2), (2, vi a1), (3, vi a2)] [] s (fun r => r = qV R) := by
  obtain ⟨d, rfl⟩ : ∃ d', d = d' + 1 := ⟨d - 1, by omega⟩
  unfold d_x5_takeStream
  refine vLan 1 i70_0 rfl rfl ?_
  refine vGetC 4 i70_1 f70_9 (texts_0 H) rfl rfl ?_
  refine vLin 5 i70_4 rfl rfl ?_
  refine vLan 6 i70_5 rfl rfl ?_
  refine vGetC 9 i70_6 f70_9 (texts_0 H2) rfl rfl ?_
  refine vLin 10 i70_9 rfl rfl ?_
  refine vIal 11 rfl i70_10 (texts_1 H2) rfl ?_
  refine vIas 12 rfl i70_11 (texts_1 H) rfl (fun s1 => ?_)
  refine vLan 13 i70_12 rfl rfl ?_
  refine vLan 14 i70_13 rfl rfl ?_
  refine vLin 15 i70_14 rfl rfl ?_
  refine vKb 17 i70_15 (by decide) rfl ?_
  refine vImul 18 i70_17 rfl ?_
  refine vLin 19 i70_18 rfl rfl ?_
  refine vKb 21 i70_19 (by decide) rfl ?_
  refine vImul 22 i70_21 rfl ?_
  refine vLan 23 i70_22 rfl rfl ?_
  refine vGetC 26 i70_23 f70_9 (texts_0 H) rfl rfl ?_
  refine vLin 27 i70_26 rfl rfl ?_
  refine vIal 28 rfl i70_27 (texts_1 H) rfl ?_
  refine vCallV 31 [.ref t, .ref t2, vi (a1 * 24), vi (a2 * 24), vi (s1 (t + 1) (Int.toNat (w32 a2)))] [] [(0, .ref t), (1, .ref t2), (2, vi (a1 * 24)), (3, vi (a2 * 24)), (4, vi (s1 (t + 1) (Int.toNat (w32 a2))))] i70_28 rfl (xlk0 l70_43) (Or.inl rfl) m69 rfl rfl (Nat.le_of_ble_eq_true rfl) (Nat.le_of_ble_eq_true rfl) (Nat.le_of_ble_eq_true rfl) (xh0 (texts_0 H) (by decide)) rfl rfl (fun R1 => c_x5_takeParts N t u t2 u2 H H2 (by omega) s1 (a1 * 24) (a2 * 24) (s1 (t + 1) (Int.toNat (w32 a2)))) (fun s2 => ?_)
  exact vR0 i70_31 m70
theorem f78_15 : xFld xg 78 15 = some (5, 0) := by decide +kernel
theorem f78_19 : xFld xg 78 19 = some (5, 1) := by decide +kernel
theorem f78_22 : xFld xg 78 22 = some (5, 2) := by decide +kernel
theorem f78_25 : xFld xg 78 25 = some (5, 3) := by decide +kernel
theorem f78_29 : xFld xg 78 29 = some (5, 4) := by decide +kernel
theorem f78_32 : xFld xg 78 32 = some (5, 5) := by decide +kernel
theorem f78_46 : xFld xg 78 46 = some (5, 9) := by decide +kernel
theorem f78_35 : xFld xg 78 35 = some (5, 6) := by decide +kernel
theorem i78_7 : xIns xg 78 7 = some (.iload_n 3) := by decide +kernel
theorem i78_8 : xIns xg 78 8 = some (.aload_n 0) := by decide +kernel
theorem i78_9 : xIns xg 78 9 = some (.getfield 15) := by decide +kernel
theorem i78_12 : xIns xg 78 12 = some (.iload_n 1) := by decide +kernel
theorem i78_13 : xIns xg 78 13 = some (.iaload) := by decide +kernel
theorem i78_14 : xIns xg 78 14 = some (.if_icmp .ge 18) := by decide +kernel
theorem i78_32 : xIns xg 78 32 = some (.aload_n 0) := by decide +kernel
theorem i78_33 : xIns xg 78 33 = some (.getfield 15) := by decide +kernel
theorem i78_36 : xIns xg 78 36 = some (.iload_n 1) := by decide +kernel
theorem i78_37 : xIns xg 78 37 = some (.iconst 0) := by decide +kernel
theorem i78_38 : xIns xg 78 38 = some (.iastore) := by decide +kernel
theorem i78_39 : xIns xg 78 39 = some (.aload_n 0) := by decide +kernel
theorem i78_40 : xIns xg 78 40 = some (.getfield 19) := by decide +kernel
theorem i78_43 : xIns xg 78 43 = some (.iload_n 1) := by decide +kernel
theorem i78_44 : xIns xg 78 44 = some (.iconst 0) := by decide +kernel
theorem i78_45 : xIns xg 78 45 = some (.iastore) := by decide +kernel
theorem i78_46 : xIns xg 78 46 = some (.aload_n 0) := by decide +kernel
theorem i78_47 : xIns xg 78 47 = some (.getfield 22) := by decide +kernel
theorem i78_50 : xIns xg 78 50 = some (.iload_n 1) := by decide +kernel
theorem i78_51 : xIns xg 78 51 = some (.iconst 1) := by decide +kernel
theorem i78_52 : xIns xg 78 52 = some (.iastore) := by decide +kernel
theorem i78_53 : xIns xg 78 53 = some (.aload_n 0) := by decide +kernel
theorem i78_54 : xIns xg 78 54 = some (.getfield 25) := by decide +kernel
theorem i78_57 : xIns xg 78 57 = some (.iload_n 1) := by decide +kernel
theorem i78_58 : xIns xg 78 58 = some (.iconst 0) := by decide +kernel
theorem i78_59 : xIns xg 78 59 = some (.bastore) := by decide +kernel
theorem i78_60 : xIns xg 78 60 = some (.aload_n 0) := by decide +kernel
theorem i78_61 : xIns xg 78 61 = some (.getfield 29) := by decide +kernel
theorem i78_64 : xIns xg 78 64 = some (.iload_n 1) := by decide +kernel
theorem i78_65 : xIns xg 78 65 = some (.iconst 0) := by decide +kernel
theorem i78_66 : xIns xg 78 66 = some (.iastore) := by decide +kernel
theorem i78_67 : xIns xg 78 67 = some (.aload_n 0) := by decide +kernel
theorem i78_68 : xIns xg 78 68 = some (.getfield 32) := by decide +kernel
theorem i78_71 : xIns xg 78 71 = some (.iload_n 1) := by decide +kernel
theorem i78_72 : xIns xg 78 72 = some (.iconst 0) := by decide +kernel
theorem i78_73 : xIns xg 78 73 = some (.iastore) := by decide +kernel
theorem i78_74 : xIns xg 78 74 = some (.aload_n 0) := by decide +kernel
theorem i78_75 : xIns xg 78 75 = some (.getfield 46) := by decide +kernel
theorem i78_78 : xIns xg 78 78 = some (.iload_n 1) := by decide +kernel
theorem i78_79 : xIns xg 78 79 = some (.iconst 0) := by decide +kernel
theorem i78_80 : xIns xg 78 80 = some (.bastore) := by decide +kernel
theorem i78_81 : xIns xg 78 81 = some (.return_) := by decide +kernel
theorem m78 : (xMet xg 78).2.2 = (4, none) := by decide +kernel
theorem i78_17 : xIns xg 78 17 = some (.aload_n 0) := by decide +kernel
theorem i78_18 : xIns xg 78 18 = some (.getfield 35) := by decide +kernel
theorem i78_21 : xIns xg 78 21 = some (.iload_n 2) := by decide +kernel
theorem i78_22 : xIns xg 78 22 = some (.iload_n 3) := by decide +kernel
theorem i78_23 : xIns xg 78 23 = some (.iadd) := by decide +kernel
theorem i78_24 : xIns xg 78 24 = some (.iconst 0) := by decide +kernel
theorem i78_25 : xIns xg 78 25 = some (.bastore) := by decide +kernel
theorem i78_26 : xIns xg 78 26 = some (.iinc 3 1) := by decide +kernel
theorem i78_29 : xIns xg 78 29 = some (.goto (-22)) := by decide +kernel
theorem i78_0 : xIns xg 78 0 = some (.iload_n 1) := by decide +kernel
theorem i78_1 : xIns xg 78 1 = some (.bipush 64) := by decide +kernel
theorem i78_3 : xIns xg 78 3 = some (.imul) := by decide +kernel
theorem i78_4 : xIns xg 78 4 = some (.istore_n 2) := by decide +kernel
theorem i78_5 : xIns xg 78 5 = some (.iconst 0) := by decide +kernel
theorem i78_6 : xIns xg 78 6 = some (.istore_n 3) := by decide +kernel
def d_x6_untellPart_7 (N : Nat) (t : Nat)  (k7 : St → Int → Int → Int → Option Rs) (s : St) (x1 : Int) (x2 : Int) (x3 : Int) : Option Rs :=
  if 0 ≤ (w32 x1) ∧ (w32 x1) < ((192 : Nat) : Int) then (if (w32 x3) < (w32 (s (t + 1) (Int.toNat (w32 x1)))) then if 0 ≤ (w32 (x2 + x3)) ∧ (w32 (x2 + x3)) < ((12288 : Nat) : Int) then bd (up s (t + 7) (Int.toNat (w32 (x2 + x3))) (w8 0)) fun s8 => bd (x3 + 1) fun v9 => k7 s8 x1 x2 v9 else none else if 0 ≤ (w32 x1) ∧ (w32 x1) < ((192 : Nat) : Int) then bd (up s (t + 1) (Int.toNat (w32 x1)) 0) fun s1 => if 0 ≤ (w32 x1) ∧ (w32 x1) < ((192 : Nat) : Int) then bd (up s1 (t + 2) (Int.toNat (w32 x1)) 0) fun s2 => if 0 ≤ (w32 x1) ∧ (w32 x1) < ((192 : Nat) : Int) then bd (up s2 (t + 3) (Int.toNat (w32 x1)) 1) fun s3 => if 0 ≤ (w32 x1) ∧ (w32 x1) < ((192 : Nat) : Int) then bd (up s3 (t + 4) (Int.toNat (w32 x1)) (and32 0 1)) fun s4 => if 0 ≤ (w32 x1) ∧ (w32 x1) < ((192 : Nat) : Int) then bd (up s4 (t + 5) (Int.toNat (w32 x1)) 0) fun s5 => if 0 ≤ (w32 x1) ∧ (w32 x1) < ((192 : Nat) : Int) then bd (up s5 (t + 6) (Int.toNat (w32 x1)) 0) fun s6 => if 0 ≤ (w32 x1) ∧ (w32 x1) < ((192 : Nat) : Int) then bd (up s6 (t + 10) (Int.toNat (w32 x1)) (and32 0 1)) fun s7 => some (s7, 0) else none else none else none else none else none else none else none) else none
def d_x6_untellPart_7L (N : Nat) (t : Nat)  : Nat → St → Int → Int → Int → Option Rs
  | 0 => fun _ _ _ _ => none
  | n + 1 => d_x6_untellPart_7 N t  (d_x6_untellPart_7L N t  n)
set_option maxHeartbeats 4000000 in
set_option maxRecDepth 100000 in
theorem c_x6_untellPart_7 {sc : xS} {d : Nat} {R : Rs} (N : Nat) (t : Nat) (H : isTold t) (hd : 0 ≤ d)   (k7 : St → Int → Int → Int → Option Rs) (hk7 : ∀ (s : St) (x1 : Int) (x2 : Int) (x3 : Int), k7 s x1 x2 x3 = some R → vT sc d 78 7 [(0, .ref t), (1, vi x1), (2, vi x2), (3, vi x3)] [] s (fun r => r = qV R)) (s : St) (x1 : Int) (x2 : Int) (x3 : Int) : d_x6_untellPart_7 N t  k7 s x1 x2 x3 = some R → vT sc d 78 7 [(0, .ref t), (1, vi x1), (2, vi x2), (3, vi x3)] [] s (fun r => r = qV R) := by
  unfold d_x6_untellPart_7
  refine vLin 8 i78_7 rfl rfl ?_
  refine vLan 9 i78_8 rfl rfl ?_
  refine vGetC 12 i78_9 f78_15 (told_0 H) rfl rfl ?_
  refine vLin 13 i78_12 rfl rfl ?_
  refine vIal 14 rfl i78_13 (told_1 H) rfl ?_
  refine vCge 32 17 rfl rfl i78_14 rfl rfl ?_ ?_
  · refine vLan 33 i78_32 rfl rfl ?_
    refine vGetC 36 i78_33 f78_15 (told_0 H) rfl rfl ?_
    refine vLin 37 i78_36 rfl rfl ?_
    refine vK 38 i78_37 rfl ?_
    refine vIas 39 rfl i78_38 (told_1 H) rfl (fun s1 => ?_)
    refine vLan 40 i78_39 rfl rfl ?_
    refine vGetC 43 i78_40 f78_19 (told_0 H) rfl rfl ?_
    refine vLin 44 i78_43 rfl rfl ?_
    refine vK 45 i78_44 rfl ?_
    refine vIas 46 rfl i78_45 (told_2 H) rfl (fun s2 => ?_)
    refine vLan 47 i78_46 rfl rfl ?_
    refine vGetC 50 i78_47 f78_22 (told_0 H) rfl rfl ?_
    refine vLin 51 i78_50 rfl rfl ?_
    refine vK 52 i78_51 rfl ?_
    refine vIas 53 rfl i78_52 (told_3 H) rfl (fun s3 => ?_)
    refine vLan 54 i78_53 rfl rfl ?_
    refine vGetC 57 i78_54 f78_25 (told_0 H) rfl rfl ?_
    refine vLin 58 i78_57 rfl rfl ?_
    refine vK 59 i78_58 rfl ?_
    refine vZas 60 rfl i78_59 (told_4 H) rfl (fun s4 => ?_)
    refine vLan 61 i78_60 rfl rfl ?_
    refine vGetC 64 i78_61 f78_29 (told_0 H) rfl rfl ?_
    refine vLin 65 i78_64 rfl rfl ?_
    refine vK 66 i78_65 rfl ?_
    refine vIas 67 rfl i78_66 (told_5 H) rfl (fun s5 => ?_)
    refine vLan 68 i78_67 rfl rfl ?_
    refine vGetC 71 i78_68 f78_32 (told_0 H) rfl rfl ?_
    refine vLin 72 i78_71 rfl rfl ?_
    refine vK 73 i78_72 rfl ?_
    refine vIas 74 rfl i78_73 (told_6 H) rfl (fun s6 => ?_)
    refine vLan 75 i78_74 rfl rfl ?_
    refine vGetC 78 i78_75 f78_46 (told_0 H) rfl rfl ?_
    refine vLin 79 i78_78 rfl rfl ?_
    refine vK 80 i78_79 rfl ?_
    refine vZas 81 rfl i78_80 (told_10 H) rfl (fun s7 => ?_)
    exact vR0 i78_81 m78
  · refine vLan 18 i78_17 rfl rfl ?_
    refine vGetC 21 i78_18 f78_35 (told_0 H) rfl rfl ?_
    refine vLin 22 i78_21 rfl rfl ?_
    refine vLin 23 i78_22 rfl rfl ?_
    refine vIadd 24 i78_23 rfl ?_
    refine vK 25 i78_24 rfl ?_
    refine vBas 26 rfl i78_25 (told_7 H) rfl (fun s8 => ?_)
    refine vInc 29 (fun v9 => [(3, vi v9), (0, .ref t), (1, vi x1), (2, vi x2)]) i78_26 m78 (by decide) rfl (fun _ => rfl) rfl (fun v9 => ?_)
    refine vGo 7 i78_29 rfl ?_
    exact fun hD => tLc [(0, .ref t), (1, vi x1), (2, vi x2), (3, vi v9)] (xNdk [0, 1, 2, 3] rfl (by decide)) (xNdk [3, 0, 1, 2] rfl (by decide)) ⟨rfl, rfl, rfl, rfl, trivial⟩ (hk7 s8 x1 x2 v9 hD)
theorem c_x6_untellPart_7L {sc : xS} {d : Nat} {R : Rs} (N : Nat) (t : Nat) (H : isTold t) (hd : 0 ≤ d)   : ∀ (n : Nat) (s : St) (x1 : Int) (x2 : Int) (x3 : Int), d_x6_untellPart_7L N t  n s x1 x2 x3 = some R → vT sc d 78 7 [(0, .ref t), (1, vi x1), (2, vi x2), (3, vi x3)] [] s (fun r => r = qV R) := by
  intro n
  induction n with
  | zero => intro s x1 x2 x3 hD; cases hD
  | succ n ih => intro s x1 x2 x3 hD; exact c_x6_untellPart_7 N t H hd  _ ih s x1 x2 x3 hD
def d_x6_untellPart (N : Nat) (t : Nat)  (s : St) (a0 : Int) : Option Rs :=
  bd (a0 * 64) fun v10 => d_x6_untellPart_7L N t  N s a0 v10 0
set_option maxHeartbeats 4000000 in
set_option maxRecDepth 100000 in
theorem c_x6_untellPart {sc : xS} {d : Nat} {R : Rs} (N : Nat) (t : Nat) (H : isTold t) (hd : 0 ≤ d)   (s : St) (a0 : Int) : d_x6_untellPart N t  s a0 = some R → vT sc d 78 0 [(0, .ref t), (1, vi a0)] [] s (fun r => r = qV R) := by
  unfold d_x6_untellPart
  refine vLin 1 i78_0 rfl rfl ?_
  refine vKb 3 i78_1 (by decide) rfl ?_
  refine vImul 4 i78_3 rfl ?_
  refine vSin 5 (fun v10 => [(2, vi v10), (0, .ref t), (1, vi a0)]) i78_4 m78 (by decide) (fun v10 => (rfl : xst1 [(0, .ref t), (1, vi a0)] 2 (vi v10) = [(2, vi v10), (0, .ref t), (1, vi a0)])) rfl (fun v10 => ?_)
  refine vK 6 i78_5 rfl ?_
  refine vSin0 7 [(3, vi 0), (2, vi v10), (0, .ref t), (1, vi a0)] i78_6 m78 (by decide) rfl rfl ?_
  exact fun hD => tLc [(0, .ref t), (1, vi a0), (2, vi v10), (3, vi 0)] (xNdk [0, 1, 2, 3] rfl (by decide)) (xNdk [3, 2, 0, 1] rfl (by decide)) ⟨rfl, rfl, rfl, rfl, trivial⟩ (c_x6_untellPart_7L N t H hd  N s a0 v10 0 hD)
theorem f77_9 : xFld xg 77 9 = some (5, 11) := by decide +kernel
theorem f77_49 : xFld xg 77 49 = some (5, 10) := by decide +kernel
theorem i77_2 : xIns xg 77 2 = some (.iload_n 1) := by decide +kernel
theorem i77_3 : xIns xg 77 3 = some (.aload_n 0) := by decide +kernel
theorem i77_4 : xIns xg 77 4 = some (.getfield 9) := by decide +kernel
theorem i77_7 : xIns xg 77 7 = some (.if_icmp .ge 19) := by decide +kernel
theorem i77_26 : xIns xg 77 26 = some (.aload_n 0) := by decide +kernel
theorem i77_27 : xIns xg 77 27 = some (.iconst 0) := by decide +kernel
theorem i77_28 : xIns xg 77 28 = some (.putfield 9) := by decide +kernel
theorem p77_9 : xPut xg 77 9 = some (5, 11, .int) := by decide +kernel
theorem i77_31 : xIns xg 77 31 = some (.return_) := by decide +kernel
theorem m77 : (xMet xg 77).2.2 = (2, none) := by decide +kernel
theorem i77_10 : xIns xg 77 10 = some (.aload_n 0) := by decide +kernel
theorem i77_11 : xIns xg 77 11 = some (.aload_n 0) := by decide +kernel
theorem i77_12 : xIns xg 77 12 = some (.getfield 49) := by decide +kernel
theorem i77_15 : xIns xg 77 15 = some (.iload_n 1) := by decide +kernel
theorem i77_16 : xIns xg 77 16 = some (.iaload) := by decide +kernel
theorem i77_17 : xIns xg 77 17 = some (.invokevirtual 52) := by decide +kernel
theorem i77_20 : xIns xg 77 20 = some (.iinc 1 1) := by decide +kernel
theorem i77_23 : xIns xg 77 23 = some (.goto (-21)) := by decide +kernel
theorem i77_0 : xIns xg 77 0 = some (.iconst 0) := by decide +kernel
theorem i77_1 : xIns xg 77 1 = some (.istore_n 1) := by decide +kernel
def d_x6_untell_2 (N : Nat) (t : Nat)  (k2 : St → Int → Option Rs) (s : St) (x1 : Int) : Option Rs :=
  (if (w32 x1) < (w32 (s t 11)) then if 0 ≤ (w32 x1) ∧ (w32 x1) < ((192 : Nat) : Int) then bV (d_x6_untellPart N t s (s (t + 11) (Int.toNat (w32 x1)))) fun s2 => bd (x1 + 1) fun v4 => k2 s2 v4 else none else bd (up s t 11 0) fun s1 => some (s1, 0))
def d_x6_untell_2L (N : Nat) (t : Nat)  : Nat → St → Int → Option Rs
  | 0 => fun _ _ => none
  | n + 1 => d_x6_untell_2 N t  (d_x6_untell_2L N t  n)
set_option maxHeartbeats 4000000 in
set_option maxRecDepth 100000 in
theorem c_x6_untell_2 {sc : xS} {d : Nat} {R : Rs} (N : Nat) (t : Nat) (H : isTold t) (hd : 1 ≤ d)   (k2 : St → Int → Option Rs) (hk2 : ∀ (s : St) (x1 : Int), k2 s x1 = some R → vT sc d 77 2 [(0, .ref t), (1, vi x1)] [] s (fun r => r = qV R)) (s : St) (x1 : Int) : d_x6_untell_2 N t  k2 s x1 = some R → vT sc d 77 2 [(0, .ref t), (1, vi x1)] [] s (fun r => r = qV R) := by
  obtain ⟨d, rfl⟩ : ∃ d', d = d' + 1 := ⟨d - 1, by omega⟩
  unfold d_x6_untell_2
  refine vLin 3 i77_2 rfl rfl ?_
  refine vLan 4 i77_3 rfl rfl ?_
  refine vGet 7 i77_4 f77_9 (told_0 H) rfl rfl ?_
  refine vCge 26 10 rfl rfl i77_7 rfl rfl ?_ ?_
  · refine vLan 27 i77_26 rfl rfl ?_
    refine vK 28 i77_27 rfl ?_
    refine vPut 31 i77_28 p77_9 (told_0 H) rfl rfl (fun s1 => ?_)
    exact vR0 i77_31 m77
  · refine vLan 11 i77_10 rfl rfl ?_
    refine vLan 12 i77_11 rfl rfl ?_
    refine vGetC 15 i77_12 f77_49 (told_0 H) rfl rfl ?_
    refine vLin 16 i77_15 rfl rfl ?_
    refine vIal 17 rfl i77_16 (told_11 H) rfl ?_
    refine vCallV 20 [.ref t, vi (s (t + 11) (Int.toNat (w32 x1)))] [] [(0, .ref t), (1, vi (s (t + 11) (Int.toNat (w32 x1))))] i77_17 rfl (xlk0 l77_52) (Or.inl rfl) m78 rfl rfl (Nat.le_of_ble_eq_true rfl) (Nat.le_of_ble_eq_true rfl) (Nat.le_of_ble_eq_true rfl) (xh0 (told_0 H) (by decide)) rfl rfl (fun R1 => c_x6_untellPart N t H (by omega) s (s (t + 11) (Int.toNat (w32 x1)))) (fun s2 => ?_)
    refine vInc 23 (fun v4 => [(1, vi v4), (0, .ref t)]) i77_20 m77 (by decide) rfl (fun _ => rfl) rfl (fun v4 => ?_)
    refine vGo 2 i77_23 rfl ?_
    exact fun hD => tLc [(0, .ref t), (1, vi v4)] (xNdk [0, 1] rfl (by decide)) (xNdk [1, 0] rfl (by decide)) ⟨rfl, rfl, trivial⟩ (hk2 s2 v4 hD)
theorem c_x6_untell_2L {sc : xS} {d : Nat} {R : Rs} (N : Nat) (t : Nat) (H : isTold t) (hd : 1 ≤ d)   : ∀ (n : Nat) (s : St) (x1 : Int), d_x6_untell_2L N t  n s x1 = some R → vT sc d 77 2 [(0, .ref t), (1, vi x1)] [] s (fun r => r = qV R) := by
  intro n
  induction n with
  | zero => intro s x1 hD; cases hD
  | succ n ih => intro s x1 hD; exact c_x6_untell_2 N t H hd  _ ih s x1 hD
def d_x6_untell (N : Nat) (t : Nat)  (s : St)  : Option Rs :=
  d_x6_untell_2L N t  N s 0
set_option maxHeartbeats 4000000 in
set_option maxRecDepth 100000 in
theorem c_x6_untell {sc : xS} {d : Nat} {R : Rs} (N : Nat) (t : Nat) (H : isTold t) (hd : 1 ≤ d)   (s : St)  : d_x6_untell N t  s  = some R → vT sc d 77 0 [(0, .ref t)] [] s (fun r => r = qV R) := by
  obtain ⟨d, rfl⟩ : ∃ d', d = d' + 1 := ⟨d - 1, by omega⟩
  unfold d_x6_untell
  refine vK 1 i77_0 rfl ?_
  refine vSin0 2 [(1, vi 0), (0, .ref t)] i77_1 m77 (by decide) rfl rfl ?_
  exact fun hD => tLc [(0, .ref t), (1, vi 0)] (xNdk [0, 1] rfl (by decide)) (xNdk [1, 0] rfl (by decide)) ⟨rfl, rfl, trivial⟩ (c_x6_untell_2L N t H hd  N s 0 hD)
theorem i65_0 : xIns xg 65 0 = some (.iload_n 1) := by decide +kernel
theorem i65_1 : xIns xg 65 1 = some (.iconst 1) := by decide +kernel
theorem i65_2 : xIns xg 65 2 = some (.iadd) := by decide +kernel
theorem i65_3 : xIns xg 65 3 = some (.ireturn) := by decide +kernel
theorem m65 : (xMet xg 65).2.2 = (2, (some .int)) := by decide +kernel
def d_x5_firstRow (N : Nat) (t : Nat) (u : Nat)  (s : St) (a0 : Int) : Option Rs :=
  some (s, (a0 + 1))
set_option maxHeartbeats 4000000 in
set_option maxRecDepth 100000 in
theorem c_x5_firstRow {sc : xS} {d : Nat} {R : Rs} (N : Nat) (t : Nat) (u : Nat) (H : isTexts t u) (hd : 0 ≤ d)   (s : St) (a0 : Int) : d_x5_firstRow N t u  s a0 = some R → vT sc d 65 0 [(0, .ref t), (1, vi a0)] [] s (fun r => r = qI R) := by
  unfold d_x5_firstRow
  refine vLin 1 i65_0 rfl rfl ?_
  refine vK 2 i65_1 rfl ?_
  refine vIadd 3 i65_2 rfl ?_
  exact vRi i65_3 m65 rfl
theorem f67_27 : xFld xg 67 27 = some (4, 5) := by decide +kernel
theorem i67_0 : xIns xg 67 0 = some (.iload_n 1) := by decide +kernel
theorem i67_1 : xIns xg 67 1 = some (.iconst 1) := by decide +kernel
theorem i67_2 : xIns xg 67 2 = some (.iadd) := by decide +kernel
theorem i67_3 : xIns xg 67 3 = some (.aload_n 0) := by decide +kernel
theorem i67_4 : xIns xg 67 4 = some (.getfield 27) := by decide +kernel
theorem i67_7 : xIns xg 67 7 = some (.arraylength) := by decide +kernel
theorem i67_8 : xIns xg 67 8 = some (.if_icmp .ge 18) := by decide +kernel
theorem i67_26 : xIns xg 67 26 = some (.iload_n 1) := by decide +kernel
theorem i67_27 : xIns xg 67 27 = some (.iconst 1) := by decide +kernel
theorem i67_28 : xIns xg 67 28 = some (.iadd) := by decide +kernel
theorem i67_29 : xIns xg 67 29 = some (.ireturn) := by decide +kernel
theorem m67 : (xMet xg 67).2.2 = (2, (some .int)) := by decide +kernel
theorem i67_11 : xIns xg 67 11 = some (.iload_n 1) := by decide +kernel
theorem i67_12 : xIns xg 67 12 = some (.iconst 1) := by decide +kernel
theorem i67_13 : xIns xg 67 13 = some (.iadd) := by decide +kernel
theorem i67_14 : xIns xg 67 14 = some (.aload_n 0) := by decide +kernel
theorem i67_15 : xIns xg 67 15 = some (.getfield 27) := by decide +kernel
theorem i67_18 : xIns xg 67 18 = some (.iload_n 1) := by decide +kernel
theorem i67_19 : xIns xg 67 19 = some (.iconst 1) := by decide +kernel
theorem i67_20 : xIns xg 67 20 = some (.iadd) := by decide +kernel
theorem i67_21 : xIns xg 67 21 = some (.iaload) := by decide +kernel
theorem i67_22 : xIns xg 67 22 = some (.iadd) := by decide +kernel
theorem i67_23 : xIns xg 67 23 = some (.goto 6) := by decide +kernel
def d_x5_secondRow (N : Nat) (t : Nat) (u : Nat)  (s : St) (a0 : Int) : Option Rs :=
  (if (w32 (a0 + 1)) < (w32 ((u * 24 : Nat) : Int)) then if 0 ≤ (w32 (a0 + 1)) ∧ (w32 (a0 + 1)) < ((u * 24 : Nat) : Int) then some (s, ((a0 + 1) + (s (t + 6) (Int.toNat (w32 (a0 + 1)))))) else none else some (s, (a0 + 1)))
set_option maxHeartbeats 4000000 in
set_option maxRecDepth 100000 in
theorem c_x5_secondRow {sc : xS} {d : Nat} {R : Rs} (N : Nat) (t : Nat) (u : Nat) (H : isTexts t u) (hd : 0 ≤ d)   (s : St) (a0 : Int) : d_x5_secondRow N t u  s a0 = some R → vT sc d 67 0 [(0, .ref t), (1, vi a0)] [] s (fun r => r = qI R) := by
  unfold d_x5_secondRow
  refine vLin 1 i67_0 rfl rfl ?_
  refine vK 2 i67_1 rfl ?_
  refine vIadd 3 i67_2 rfl ?_
  refine vLan 4 i67_3 rfl rfl ?_
  refine vGetC 7 i67_4 f67_27 (texts_0 H) rfl rfl ?_
  refine vAln 8 (Or.inl rfl) i67_7 (texts_6 H) rfl ?_
  refine vCge 26 11 rfl rfl i67_8 rfl rfl ?_ ?_
  · refine vLin 27 i67_26 rfl rfl ?_
    refine vK 28 i67_27 rfl ?_
    refine vIadd 29 i67_28 rfl ?_
    exact vRi i67_29 m67 rfl
  · refine vLin 12 i67_11 rfl rfl ?_
    refine vK 13 i67_12 rfl ?_
    refine vIadd 14 i67_13 rfl ?_
    refine vLan 15 i67_14 rfl rfl ?_
    refine vGetC 18 i67_15 f67_27 (texts_0 H) rfl rfl ?_
    refine vLin 19 i67_18 rfl rfl ?_
    refine vK 20 i67_19 rfl ?_
    refine vIadd 21 i67_20 rfl ?_
    refine vIal 22 rfl i67_21 (texts_6 H) rfl ?_
    refine vIadd 23 i67_22 rfl ?_
    refine vGo 29 i67_23 rfl ?_
    exact vRi i67_29 m67 rfl
theorem f74_46 : xFld xg 74 46 = some (5, 9) := by decide +kernel
theorem f74_9 : xFld xg 74 9 = some (5, 11) := by decide +kernel
theorem f74_49 : xFld xg 74 49 = some (5, 10) := by decide +kernel
theorem i74_0 : xIns xg 74 0 = some (.aload_n 0) := by decide +kernel
theorem i74_1 : xIns xg 74 1 = some (.getfield 46) := by decide +kernel
theorem i74_4 : xIns xg 74 4 = some (.iload_n 1) := by decide +kernel
theorem i74_5 : xIns xg 74 5 = some (.baload) := by decide +kernel
theorem i74_6 : xIns xg 74 6 = some (.ifCond .ne 15) := by decide +kernel
theorem i74_21 : xIns xg 74 21 = some (.return_) := by decide +kernel
theorem m74 : (xMet xg 74).2.2 = (2, none) := by decide +kernel
theorem i74_9 : xIns xg 74 9 = some (.aload_n 0) := by decide +kernel
theorem i74_10 : xIns xg 74 10 = some (.getfield 9) := by decide +kernel
theorem i74_13 : xIns xg 74 13 = some (.aload_n 0) := by decide +kernel
theorem i74_14 : xIns xg 74 14 = some (.getfield 49) := by decide +kernel
theorem i74_17 : xIns xg 74 17 = some (.arraylength) := by decide +kernel
theorem i74_18 : xIns xg 74 18 = some (.if_icmp .lt 4) := by decide +kernel
theorem i74_22 : xIns xg 74 22 = some (.aload_n 0) := by decide +kernel
theorem i74_23 : xIns xg 74 23 = some (.getfield 46) := by decide +kernel
theorem i74_26 : xIns xg 74 26 = some (.iload_n 1) := by decide +kernel
theorem i74_27 : xIns xg 74 27 = some (.iconst 1) := by decide +kernel
theorem i74_28 : xIns xg 74 28 = some (.bastore) := by decide +kernel
theorem i74_29 : xIns xg 74 29 = some (.aload_n 0) := by decide +kernel
theorem i74_30 : xIns xg 74 30 = some (.getfield 49) := by decide +kernel
theorem i74_33 : xIns xg 74 33 = some (.aload_n 0) := by decide +kernel
theorem i74_34 : xIns xg 74 34 = some (.getfield 9) := by decide +kernel
theorem i74_37 : xIns xg 74 37 = some (.iload_n 1) := by decide +kernel
theorem i74_38 : xIns xg 74 38 = some (.iastore) := by decide +kernel
theorem i74_39 : xIns xg 74 39 = some (.aload_n 0) := by decide +kernel
theorem i74_40 : xIns xg 74 40 = some (.dup) := by decide +kernel
theorem i74_41 : xIns xg 74 41 = some (.getfield 9) := by decide +kernel
theorem i74_44 : xIns xg 74 44 = some (.iconst 1) := by decide +kernel
theorem i74_45 : xIns xg 74 45 = some (.iadd) := by decide +kernel
theorem i74_46 : xIns xg 74 46 = some (.putfield 9) := by decide +kernel
theorem p74_9 : xPut xg 74 9 = some (5, 11, .int) := by decide +kernel
theorem i74_49 : xIns xg 74 49 = some (.return_) := by decide +kernel
def d_x6_meet (N : Nat) (t : Nat)  (s : St) (a0 : Int) : Option Rs :=
  if 0 ≤ (w32 a0) ∧ (w32 a0) < ((192 : Nat) : Int) then (if (w32 (s (t + 10) (Int.toNat (w32 a0)))) = 0 then (if (w32 (s t 11)) < (w32 ((192 : Nat) : Int)) then if 0 ≤ (w32 a0) ∧ (w32 a0) < ((192 : Nat) : Int) then bd (up s (t + 10) (Int.toNat (w32 a0)) (and32 1 1)) fun s1 => if 0 ≤ (w32 (s1 t 11)) ∧ (w32 (s1 t 11)) < ((192 : Nat) : Int) then bd (up s1 (t + 11) (Int.toNat (w32 (s1 t 11))) a0) fun s2 => bd (up s2 t 11 ((s2 t 11) + 1)) fun s3 => some (s3, 0) else none else none else some (s, 0)) else some (s, 0)) else none
set_option maxHeartbeats 4000000 in
set_option maxRecDepth 100000 in
theorem c_x6_meet {sc : xS} {d : Nat} {R : Rs} (N : Nat) (t : Nat) (H : isTold t) (hd : 0 ≤ d)   (s : St) (a0 : Int) : d_x6_meet N t  s a0 = some R → vT sc d 74 0 [(0, .ref t), (1, vi a0)] [] s (fun r => r = qV R) := by
  unfold d_x6_meet
  refine vLan 1 i74_0 rfl rfl ?_
  refine vGetC 4 i74_1 f74_46 (told_0 H) rfl rfl ?_
  refine vLin 5 i74_4 rfl rfl ?_
  refine vZal 6 rfl i74_5 (told_10 H) rfl ?_
  refine vZne 21 9 rfl i74_6 rfl rfl ?_ ?_
  · exact vR0 i74_21 m74
  · refine vLan 10 i74_9 rfl rfl ?_
    refine vGet 13 i74_10 f74_9 (told_0 H) rfl rfl ?_
    refine vLan 14 i74_13 rfl rfl ?_
    refine vGetC 17 i74_14 f74_49 (told_0 H) rfl rfl ?_
    refine vAln 18 (Or.inl rfl) i74_17 (told_11 H) rfl ?_
    refine vClt 22 21 rfl rfl i74_18 rfl rfl ?_ ?_
    · refine vLan 23 i74_22 rfl rfl ?_
      refine vGetC 26 i74_23 f74_46 (told_0 H) rfl rfl ?_
      refine vLin 27 i74_26 rfl rfl ?_
      refine vK 28 i74_27 rfl ?_
      refine vZas 29 rfl i74_28 (told_10 H) rfl (fun s1 => ?_)
      refine vLan 30 i74_29 rfl rfl ?_
      refine vGetC 33 i74_30 f74_49 (told_0 H) rfl rfl ?_
      refine vLan 34 i74_33 rfl rfl ?_
      refine vGet 37 i74_34 f74_9 (told_0 H) rfl rfl ?_
      refine vLin 38 i74_37 rfl rfl ?_
      refine vIas 39 rfl i74_38 (told_11 H) rfl (fun s2 => ?_)
      refine vLan 40 i74_39 rfl rfl ?_
      refine vD 41 i74_40 rfl rfl rfl ?_
      refine vGet 44 i74_41 f74_9 (told_0 H) rfl rfl ?_
      refine vK 45 i74_44 rfl ?_
      refine vIadd 46 i74_45 rfl ?_
      refine vPut 49 i74_46 p74_9 (told_0 H) rfl rfl (fun s3 => ?_)
      exact vR0 i74_49 m74
    · exact vR0 i74_21 m74
theorem f76_15 : xFld xg 76 15 = some (5, 0) := by decide +kernel
theorem f76_19 : xFld xg 76 19 = some (5, 1) := by decide +kernel
theorem f76_22 : xFld xg 76 22 = some (5, 2) := by decide +kernel
theorem f76_29 : xFld xg 76 29 = some (5, 4) := by decide +kernel
theorem f76_32 : xFld xg 76 32 = some (5, 5) := by decide +kernel
theorem f76_35 : xFld xg 76 35 = some (5, 6) := by decide +kernel
theorem f76_39 : xFld xg 76 39 = some (5, 7) := by decide +kernel
theorem f76_43 : xFld xg 76 43 = some (5, 8) := by decide +kernel
theorem i76_0 : xIns xg 76 0 = some (.aload_n 1) := by decide +kernel
theorem i76_1 : xIns xg 76 1 = some (.getfield 15) := by decide +kernel
theorem i76_4 : xIns xg 76 4 = some (.iload_n 2) := by decide +kernel
theorem i76_5 : xIns xg 76 5 = some (.iaload) := by decide +kernel
theorem i76_6 : xIns xg 76 6 = some (.istore_n 3) := by decide +kernel
theorem m76 : (xMet xg 76).2.2 = (5, none) := by decide +kernel
theorem i76_7 : xIns xg 76 7 = some (.iload_n 2) := by decide +kernel
theorem i76_8 : xIns xg 76 8 = some (.bipush 64) := by decide +kernel
theorem i76_10 : xIns xg 76 10 = some (.imul) := by decide +kernel
theorem i76_11 : xIns xg 76 11 = some (.istore 4) := by decide +kernel
theorem i76_13 : xIns xg 76 13 = some (.aload_n 0) := by decide +kernel
theorem i76_14 : xIns xg 76 14 = some (.iload_n 2) := by decide +kernel
theorem i76_15 : xIns xg 76 15 = some (.invokevirtual 63) := by decide +kernel
theorem i76_18 : xIns xg 76 18 = some (.aload_n 0) := by decide +kernel
theorem i76_19 : xIns xg 76 19 = some (.getfield 15) := by decide +kernel
theorem i76_22 : xIns xg 76 22 = some (.iload_n 2) := by decide +kernel
theorem i76_23 : xIns xg 76 23 = some (.iload_n 3) := by decide +kernel
theorem i76_24 : xIns xg 76 24 = some (.iastore) := by decide +kernel
theorem i76_25 : xIns xg 76 25 = some (.aload_n 0) := by decide +kernel
theorem i76_26 : xIns xg 76 26 = some (.getfield 19) := by decide +kernel
theorem i76_29 : xIns xg 76 29 = some (.iload_n 2) := by decide +kernel
theorem i76_30 : xIns xg 76 30 = some (.aload_n 1) := by decide +kernel
theorem i76_31 : xIns xg 76 31 = some (.getfield 19) := by decide +kernel
theorem i76_34 : xIns xg 76 34 = some (.iload_n 2) := by decide +kernel
theorem i76_35 : xIns xg 76 35 = some (.iaload) := by decide +kernel
theorem i76_36 : xIns xg 76 36 = some (.iastore) := by decide +kernel
theorem i76_37 : xIns xg 76 37 = some (.aload_n 0) := by decide +kernel
theorem i76_38 : xIns xg 76 38 = some (.getfield 22) := by decide +kernel
theorem i76_41 : xIns xg 76 41 = some (.iload_n 2) := by decide +kernel
theorem i76_42 : xIns xg 76 42 = some (.aload_n 1) := by decide +kernel
theorem i76_43 : xIns xg 76 43 = some (.getfield 22) := by decide +kernel
theorem i76_46 : xIns xg 76 46 = some (.iload_n 2) := by decide +kernel
theorem i76_47 : xIns xg 76 47 = some (.iaload) := by decide +kernel
theorem i76_48 : xIns xg 76 48 = some (.iastore) := by decide +kernel
theorem i76_49 : xIns xg 76 49 = some (.aload_n 0) := by decide +kernel
theorem i76_50 : xIns xg 76 50 = some (.getfield 29) := by decide +kernel
theorem i76_53 : xIns xg 76 53 = some (.iload_n 2) := by decide +kernel
theorem i76_54 : xIns xg 76 54 = some (.aload_n 1) := by decide +kernel
theorem i76_55 : xIns xg 76 55 = some (.getfield 29) := by decide +kernel
theorem i76_58 : xIns xg 76 58 = some (.iload_n 2) := by decide +kernel
theorem i76_59 : xIns xg 76 59 = some (.iaload) := by decide +kernel
theorem i76_60 : xIns xg 76 60 = some (.iastore) := by decide +kernel
theorem i76_61 : xIns xg 76 61 = some (.aload_n 0) := by decide +kernel
theorem i76_62 : xIns xg 76 62 = some (.getfield 32) := by decide +kernel
theorem i76_65 : xIns xg 76 65 = some (.iload_n 2) := by decide +kernel
theorem i76_66 : xIns xg 76 66 = some (.aload_n 1) := by decide +kernel
theorem i76_67 : xIns xg 76 67 = some (.getfield 32) := by decide +kernel
theorem i76_70 : xIns xg 76 70 = some (.iload_n 2) := by decide +kernel
theorem i76_71 : xIns xg 76 71 = some (.iaload) := by decide +kernel
theorem i76_72 : xIns xg 76 72 = some (.iastore) := by decide +kernel
theorem i76_73 : xIns xg 76 73 = some (.aload_n 1) := by decide +kernel
theorem i76_74 : xIns xg 76 74 = some (.getfield 35) := by decide +kernel
theorem i76_77 : xIns xg 76 77 = some (.iload 4) := by decide +kernel
theorem i76_79 : xIns xg 76 79 = some (.aload_n 0) := by decide +kernel
theorem i76_80 : xIns xg 76 80 = some (.getfield 35) := by decide +kernel
theorem i76_83 : xIns xg 76 83 = some (.iload 4) := by decide +kernel
theorem i76_85 : xIns xg 76 85 = some (.iload_n 3) := by decide +kernel
theorem i76_86 : xIns xg 76 86 = some (.invokestatic 66) := by decide +kernel
theorem i76_89 : xIns xg 76 89 = some (.aload_n 1) := by decide +kernel
theorem i76_90 : xIns xg 76 90 = some (.getfield 39) := by decide +kernel
theorem i76_93 : xIns xg 76 93 = some (.iload 4) := by decide +kernel
theorem i76_95 : xIns xg 76 95 = some (.aload_n 0) := by decide +kernel
theorem i76_96 : xIns xg 76 96 = some (.getfield 39) := by decide +kernel
theorem i76_99 : xIns xg 76 99 = some (.iload 4) := by decide +kernel
theorem i76_101 : xIns xg 76 101 = some (.iload_n 3) := by decide +kernel
theorem i76_102 : xIns xg 76 102 = some (.invokestatic 66) := by decide +kernel
theorem i76_105 : xIns xg 76 105 = some (.aload_n 1) := by decide +kernel
theorem i76_106 : xIns xg 76 106 = some (.getfield 43) := by decide +kernel
theorem i76_109 : xIns xg 76 109 = some (.iload 4) := by decide +kernel
theorem i76_111 : xIns xg 76 111 = some (.aload_n 0) := by decide +kernel
theorem i76_112 : xIns xg 76 112 = some (.getfield 43) := by decide +kernel
theorem i76_115 : xIns xg 76 115 = some (.iload 4) := by decide +kernel
theorem i76_117 : xIns xg 76 117 = some (.iload_n 3) := by decide +kernel
theorem i76_118 : xIns xg 76 118 = some (.invokestatic 66) := by decide +kernel
theorem i76_121 : xIns xg 76 121 = some (.return_) := by decide +kernel
def d_x6_takePart (N : Nat) (t : Nat) (t2 : Nat)  (s : St) (a1 : Int) : Option Rs :=
  if 0 ≤ (w32 a1) ∧ (w32 a1) < ((192 : Nat) : Int) then bd (s (t2 + 1) (Int.toNat (w32 a1))) fun v1 => bd (a1 * 64) fun v2 => bV (d_x6_meet N t s a1) fun s3 => if 0 ≤ (w32 a1) ∧ (w32 a1) < ((192 : Nat) : Int) then bd (up s3 (t + 1) (Int.toNat (w32 a1)) v1) fun s5 => if 0 ≤ (w32 a1) ∧ (w32 a1) < ((192 : Nat) : Int) then if 0 ≤ (w32 a1) ∧ (w32 a1) < ((192 : Nat) : Int) then bd (up s5 (t + 2) (Int.toNat (w32 a1)) (s5 (t2 + 2) (Int.toNat (w32 a1)))) fun s6 => if 0 ≤ (w32 a1) ∧ (w32 a1) < ((192 : Nat) : Int) then if 0 ≤ (w32 a1) ∧ (w32 a1) < ((192 : Nat) : Int) then bd (up s6 (t + 3) (Int.toNat (w32 a1)) (s6 (t2 + 3) (Int.toNat (w32 a1)))) fun s7 => if 0 ≤ (w32 a1) ∧ (w32 a1) < ((192 : Nat) : Int) then if 0 ≤ (w32 a1) ∧ (w32 a1) < ((192 : Nat) : Int) then bd (up s7 (t + 5) (Int.toNat (w32 a1)) (s7 (t2 + 5) (Int.toNat (w32 a1)))) fun s8 => if 0 ≤ (w32 a1) ∧ (w32 a1) < ((192 : Nat) : Int) then if 0 ≤ (w32 a1) ∧ (w32 a1) < ((192 : Nat) : Int) then bd (up s8 (t + 6) (Int.toNat (w32 a1)) (s8 (t2 + 6) (Int.toNat (w32 a1)))) fun s9 => if 0 ≤ (w32 v1) ∧ 0 ≤ (w32 v2) ∧ 0 ≤ (w32 v2) ∧ (w32 v2) + (w32 v1) ≤ ((12288 : Nat) : Int) ∧ (w32 v2) + (w32 v1) ≤ ((12288 : Nat) : Int) ∧ (List.range (Int.toNat (w32 v1))).all (fun i => fits .byte (vi (s9 (t2 + 7) (Int.toNat (w32 v2) + i)))) = true then bd (cp s9 (t2 + 7) (Int.toNat (w32 v2)) (t + 7) (Int.toNat (w32 v2)) (Int.toNat (w32 v1))) fun s10 => if 0 ≤ (w32 v1) ∧ 0 ≤ (w32 v2) ∧ 0 ≤ (w32 v2) ∧ (w32 v2) + (w32 v1) ≤ ((12288 : Nat) : Int) ∧ (w32 v2) + (w32 v1) ≤ ((12288 : Nat) : Int) then bd (cp s10 (t2 + 8) (Int.toNat (w32 v2)) (t + 8) (Int.toNat (w32 v2)) (Int.toNat (w32 v1))) fun s11 => if 0 ≤ (w32 v1) ∧ 0 ≤ (w32 v2) ∧ 0 ≤ (w32 v2) ∧ (w32 v2) + (w32 v1) ≤ ((12288 : Nat) : Int) ∧ (w32 v2) + (w32 v1) ≤ ((12288 : Nat) : Int) ∧ (List.range (Int.toNat (w32 v1))).all (fun i => fits .byte (vi (s11 (t2 + 9) (Int.toNat (w32 v2) + i)))) = true then bd (cp s11 (t2 + 9) (Int.toNat (w32 v2)) (t + 9) (Int.toNat (w32 v2)) (Int.toNat (w32 v1))) fun s12 => some (s12, 0) else none else none else none else none else none else none else none else none else none else none else none else none else none
set_option maxHeartbeats 4000000 in
set_option maxRecDepth 100000 in
theorem c_x6_takePart {sc : xS} {d : Nat} {R : Rs} (N : Nat) (t : Nat) (t2 : Nat) (H : isTold t) (H2 : isTold t2) (hd : 1 ≤ d)   (s : St) (a1 : Int) : d_x6_takePart N t t2  s a1 = some R → vT sc d 76 0 [(0, .ref t), (1, .ref t2), (2, vi a1)] [] s (fun r => r = qV R) := by
  obtain ⟨d, rfl⟩ : ∃ d', d = d' + 1 := ⟨d - 1, by omega⟩
  unfold d_x6_takePart
  refine vLan 1 i76_0 rfl rfl ?_
  refine vGetC 4 i76_1 f76_15 (told_0 H2) rfl rfl ?_
  refine vLin 5 i76_4 rfl rfl ?_
  refine vIal 6 rfl i76_5 (told_1 H2) rfl ?_
  refine vSin 7 (fun v1 => [(3, vi v1), (0, .ref t), (1, .ref t2), (2, vi a1)]) i76_6 m76 (by decide) (fun v1 => (rfl : xst1 [(0, .ref t), (1, .ref t2), (2, vi a1)] 3 (vi v1) = [(3, vi v1), (0, .ref t), (1, .ref t2), (2, vi a1)])) rfl (fun v1 => ?_)
  refine vLin 8 i76_7 rfl rfl ?_
  refine vKb 10 i76_8 (by decide) rfl ?_
  refine vImul 11 i76_10 rfl ?_
  refine vSi 13 (fun v2 => [(4, vi v2), (3, vi v1), (0, .ref t), (1, .ref t2), (2, vi a1)]) i76_11 m76 (by decide) (fun v2 => (rfl : xst1 [(3, vi v1), (0, .ref t), (1, .ref t2), (2, vi a1)] 4 (vi v2) = [(4, vi v2), (3, vi v1), (0, .ref t), (1, .ref t2), (2, vi a1)])) rfl (fun v2 => ?_)
  refine vLan 14 i76_13 rfl rfl ?_
  refine vLin 15 i76_14 rfl rfl ?_
  refine vCallV 18 [.ref t, vi a1] [] [(0, .ref t), (1, vi a1)] i76_15 rfl (xlk0 l76_63) (Or.inl rfl) m74 rfl rfl (Nat.le_of_ble_eq_true rfl) (Nat.le_of_ble_eq_true rfl) (Nat.le_of_ble_eq_true rfl) (xh0 (told_0 H) (by decide)) rfl rfl (fun R1 => c_x6_meet N t H (by omega) s a1) (fun s3 => ?_)
  refine vLan 19 i76_18 rfl rfl ?_
  refine vGetC 22 i76_19 f76_15 (told_0 H) rfl rfl ?_
  refine vLin 23 i76_22 rfl rfl ?_
  refine vLin 24 i76_23 rfl rfl ?_
  refine vIas 25 rfl i76_24 (told_1 H) rfl (fun s5 => ?_)
  refine vLan 26 i76_25 rfl rfl ?_
  refine vGetC 29 i76_26 f76_19 (told_0 H) rfl rfl ?_
  refine vLin 30 i76_29 rfl rfl ?_
  refine vLan 31 i76_30 rfl rfl ?_
  refine vGetC 34 i76_31 f76_19 (told_0 H2) rfl rfl ?_
  refine vLin 35 i76_34 rfl rfl ?_
  refine vIal 36 rfl i76_35 (told_2 H2) rfl ?_
  refine vIas 37 rfl i76_36 (told_2 H) rfl (fun s6 => ?_)
  refine vLan 38 i76_37 rfl rfl ?_
  refine vGetC 41 i76_38 f76_22 (told_0 H) rfl rfl ?_
  refine vLin 42 i76_41 rfl rfl ?_
  refine vLan 43 i76_42 rfl rfl ?_
  refine vGetC 46 i76_43 f76_22 (told_0 H2) rfl rfl ?_
  refine vLin 47 i76_46 rfl rfl ?_
  refine vIal 48 rfl i76_47 (told_3 H2) rfl ?_
  refine vIas 49 rfl i76_48 (told_3 H) rfl (fun s7 => ?_)
  refine vLan 50 i76_49 rfl rfl ?_
  refine vGetC 53 i76_50 f76_29 (told_0 H) rfl rfl ?_
  refine vLin 54 i76_53 rfl rfl ?_
  refine vLan 55 i76_54 rfl rfl ?_
  refine vGetC 58 i76_55 f76_29 (told_0 H2) rfl rfl ?_
  refine vLin 59 i76_58 rfl rfl ?_
  refine vIal 60 rfl i76_59 (told_5 H2) rfl ?_
  refine vIas 61 rfl i76_60 (told_5 H) rfl (fun s8 => ?_)
  refine vLan 62 i76_61 rfl rfl ?_
  refine vGetC 65 i76_62 f76_32 (told_0 H) rfl rfl ?_
  refine vLin 66 i76_65 rfl rfl ?_
  refine vLan 67 i76_66 rfl rfl ?_
  refine vGetC 70 i76_67 f76_32 (told_0 H2) rfl rfl ?_
  refine vLin 71 i76_70 rfl rfl ?_
  refine vIal 72 rfl i76_71 (told_6 H2) rfl ?_
  refine vIas 73 rfl i76_72 (told_6 H) rfl (fun s9 => ?_)
  refine vLan 74 i76_73 rfl rfl ?_
  refine vGetC 77 i76_74 f76_35 (told_0 H2) rfl rfl ?_
  refine vLi 79 i76_77 rfl rfl ?_
  refine vLan 80 i76_79 rfl rfl ?_
  refine vGetC 83 i76_80 f76_35 (told_0 H) rfl rfl ?_
  refine vLi 85 i76_83 rfl rfl ?_
  refine vLin 86 i76_85 rfl rfl ?_
  refine vCpB 89 rfl rfl rfl i76_86 l76_66 (told_7 H2) (told_7 H) (Nat.le_of_ble_eq_true rfl) rfl (fun s10 => ?_)
  refine vLan 90 i76_89 rfl rfl ?_
  refine vGetC 93 i76_90 f76_39 (told_0 H2) rfl rfl ?_
  refine vLi 95 i76_93 rfl rfl ?_
  refine vLan 96 i76_95 rfl rfl ?_
  refine vGetC 99 i76_96 f76_39 (told_0 H) rfl rfl ?_
  refine vLi 101 i76_99 rfl rfl ?_
  refine vLin 102 i76_101 rfl rfl ?_
  refine vCpL 105 rfl rfl rfl i76_102 l76_66 (told_8 H2) (told_8 H) (Nat.le_of_ble_eq_true rfl) rfl (fun s11 => ?_)
  refine vLan 106 i76_105 rfl rfl ?_
  refine vGetC 109 i76_106 f76_43 (told_0 H2) rfl rfl ?_
  refine vLi 111 i76_109 rfl rfl ?_
  refine vLan 112 i76_111 rfl rfl ?_
  refine vGetC 115 i76_112 f76_43 (told_0 H) rfl rfl ?_
  refine vLi 117 i76_115 rfl rfl ?_
  refine vLin 118 i76_117 rfl rfl ?_
  refine vCpB 121 rfl rfl rfl i76_118 l76_66 (told_9 H2) (told_9 H) (Nat.le_of_ble_eq_true rfl) rfl (fun s12 => ?_)
  exact vR0 i76_121 m76
theorem f75_9 : xFld xg 75 9 = some (5, 11) := by decide +kernel
theorem f75_49 : xFld xg 75 49 = some (5, 10) := by decide +kernel
theorem i75_6 : xIns xg 75 6 = some (.iload_n 2) := by decide +kernel
theorem i75_7 : xIns xg 75 7 = some (.aload_n 1) := by decide +kernel
theorem i75_8 : xIns xg 75 8 = some (.getfield 9) := by decide +kernel
theorem i75_11 : xIns xg 75 11 = some (.if_icmp .ge 20) := by decide +kernel
theorem i75_31 : xIns xg 75 31 = some (.return_) := by decide +kernel
theorem m75 : (xMet xg 75).2.2 = (3, none) := by decide +kernel
theorem i75_14 : xIns xg 75 14 = some (.aload_n 0) := by decide +kernel
theorem i75_15 : xIns xg 75 15 = some (.aload_n 1) := by decide +kernel
theorem i75_16 : xIns xg 75 16 = some (.aload_n 1) := by decide +kernel
theorem i75_17 : xIns xg 75 17 = some (.getfield 49) := by decide +kernel
theorem i75_20 : xIns xg 75 20 = some (.iload_n 2) := by decide +kernel
theorem i75_21 : xIns xg 75 21 = some (.iaload) := by decide +kernel
theorem i75_22 : xIns xg 75 22 = some (.invokevirtual 59) := by decide +kernel
theorem i75_25 : xIns xg 75 25 = some (.iinc 2 1) := by decide +kernel
theorem i75_28 : xIns xg 75 28 = some (.goto (-22)) := by decide +kernel
theorem i75_0 : xIns xg 75 0 = some (.aload_n 0) := by decide +kernel
theorem i75_1 : xIns xg 75 1 = some (.invokevirtual 56) := by decide +kernel
theorem i75_4 : xIns xg 75 4 = some (.iconst 0) := by decide +kernel
theorem i75_5 : xIns xg 75 5 = some (.istore_n 2) := by decide +kernel
def d_x6_takeAll_6 (N : Nat) (t : Nat) (t2 : Nat)  (k6 : St → Int → Option Rs) (s : St) (x2 : Int) : Option Rs :=
  (if (w32 x2) < (w32 (s t2 11)) then if 0 ≤ (w32 x2) ∧ (w32 x2) < ((192 : Nat) : Int) then bV (d_x6_takePart N t t2 s (s (t2 + 11) (Int.toNat (w32 x2)))) fun s1 => bd (x2 + 1) fun v3 => k6 s1 v3 else none else some (s, 0))
def d_x6_takeAll_6L (N : Nat) (t : Nat) (t2 : Nat)  : Nat → St → Int → Option Rs
  | 0 => fun _ _ => none
  | n + 1 => d_x6_takeAll_6 N t t2  (d_x6_takeAll_6L N t t2  n)
set_option maxHeartbeats 4000000 in
set_option maxRecDepth 100000 in
theorem c_x6_takeAll_6 {sc : xS} {d : Nat} {R : Rs} (N : Nat) (t : Nat) (t2 : Nat) (H : isTold t) (H2 : isTold t2) (hd : 2 ≤ d)   (k6 : St → Int → Option Rs) (hk6 : ∀ (s : St) (x2 : Int), k6 s x2 = some R → vT sc d 75 6 [(0, .ref t), (1, .ref t2), (2, vi x2)] [] s (fun r => r = qV R)) (s : St) (x2 : Int) : d_x6_takeAll_6 N t t2  k6 s x2 = some R → vT sc d 75 6 [(0, .ref t), (1, .ref t2), (2, vi x2)] [] s (fun r => r = qV R) := by
  obtain ⟨d, rfl⟩ : ∃ d', d = d' + 1 := ⟨d - 1, by omega⟩
  unfold d_x6_takeAll_6
  refine vLin 7 i75_6 rfl rfl ?_
  refine vLan 8 i75_7 rfl rfl ?_
  refine vGet 11 i75_8 f75_9 (told_0 H2) rfl rfl ?_
  refine vCge 31 14 rfl rfl i75_11 rfl rfl ?_ ?_
  · exact vR0 i75_31 m75
  · refine vLan 15 i75_14 rfl rfl ?_
    refine vLan 16 i75_15 rfl rfl ?_
    refine vLan 17 i75_16 rfl rfl ?_
    refine vGetC 20 i75_17 f75_49 (told_0 H2) rfl rfl ?_
    refine vLin 21 i75_20 rfl rfl ?_
    refine vIal 22 rfl i75_21 (told_11 H2) rfl ?_
    refine vCallV 25 [.ref t, .ref t2, vi (s (t2 + 11) (Int.toNat (w32 x2)))] [] [(0, .ref t), (1, .ref t2), (2, vi (s (t2 + 11) (Int.toNat (w32 x2))))] i75_22 rfl (xlk0 l75_59) (Or.inl rfl) m76 rfl rfl (Nat.le_of_ble_eq_true rfl) (Nat.le_of_ble_eq_true rfl) (Nat.le_of_ble_eq_true rfl) (xh0 (told_0 H) (by decide)) rfl rfl (fun R1 => c_x6_takePart N t t2 H H2 (by omega) s (s (t2 + 11) (Int.toNat (w32 x2)))) (fun s1 => ?_)
    refine vInc 28 (fun v3 => [(2, vi v3), (0, .ref t), (1, .ref t2)]) i75_25 m75 (by decide) rfl (fun _ => rfl) rfl (fun v3 => ?_)
    refine vGo 6 i75_28 rfl ?_
    exact fun hD => tLc [(0, .ref t), (1, .ref t2), (2, vi v3)] (xNdk [0, 1, 2] rfl (by decide)) (xNdk [2, 0, 1] rfl (by decide)) ⟨rfl, rfl, rfl, trivial⟩ (hk6 s1 v3 hD)
theorem c_x6_takeAll_6L {sc : xS} {d : Nat} {R : Rs} (N : Nat) (t : Nat) (t2 : Nat) (H : isTold t) (H2 : isTold t2) (hd : 2 ≤ d)   : ∀ (n : Nat) (s : St) (x2 : Int), d_x6_takeAll_6L N t t2  n s x2 = some R → vT sc d 75 6 [(0, .ref t), (1, .ref t2), (2, vi x2)] [] s (fun r => r = qV R) := by
  intro n
  induction n with
  | zero => intro s x2 hD; cases hD
  | succ n ih => intro s x2 hD; exact c_x6_takeAll_6 N t t2 H H2 hd  _ ih s x2 hD
def d_x6_takeAll (N : Nat) (t : Nat) (t2 : Nat)  (s : St)  : Option Rs :=
  bV (d_x6_untell N t s ) fun s4 => d_x6_takeAll_6L N t t2  N s4 0
set_option maxHeartbeats 4000000 in
set_option maxRecDepth 100000 in
theorem c_x6_takeAll {sc : xS} {d : Nat} {R : Rs} (N : Nat) (t : Nat) (t2 : Nat) (H : isTold t) (H2 : isTold t2) (hd : 2 ≤ d)   (s : St)  : d_x6_takeAll N t t2  s  = some R → vT sc d 75 0 [(0, .ref t), (1, .ref t2)] [] s (fun r => r = qV R) := by
  obtain ⟨d, rfl⟩ : ∃ d', d = d' + 1 := ⟨d - 1, by omega⟩
  unfold d_x6_takeAll
  refine vLan 1 i75_0 rfl rfl ?_
  refine vCallV 4 [.ref t] [] [(0, .ref t)] i75_1 rfl (xlk0 l75_56) (Or.inl rfl) m77 rfl rfl (Nat.le_of_ble_eq_true rfl) (Nat.le_of_ble_eq_true rfl) (Nat.le_of_ble_eq_true rfl) (xh0 (told_0 H) (by decide)) rfl rfl (fun R1 => c_x6_untell N t H (by omega) s ) (fun s4 => ?_)
  refine vK 5 i75_4 rfl ?_
  refine vSin0 6 [(2, vi 0), (0, .ref t), (1, .ref t2)] i75_5 m75 (by decide) rfl rfl ?_
  exact fun hD => tLc [(0, .ref t), (1, .ref t2), (2, vi 0)] (xNdk [0, 1, 2] rfl (by decide)) (xNdk [2, 0, 1] rfl (by decide)) ⟨rfl, rfl, rfl, trivial⟩ (c_x6_takeAll_6L N t t2 H H2 hd  N s4 0 hD)
theorem f71_9 : xFld xg 71 9 = some (5, 11) := by decide +kernel
theorem f71_19 : xFld xg 71 19 = some (5, 1) := by decide +kernel
theorem f71_49 : xFld xg 71 49 = some (5, 10) := by decide +kernel
theorem i71_4 : xIns xg 71 4 = some (.iload_n 2) := by decide +kernel
theorem i71_5 : xIns xg 71 5 = some (.aload_n 0) := by decide +kernel
theorem i71_6 : xIns xg 71 6 = some (.getfield 9) := by decide +kernel
theorem i71_9 : xIns xg 71 9 = some (.if_icmp .ge 23) := by decide +kernel
theorem i71_32 : xIns xg 71 32 = some (.iload_n 1) := by decide +kernel
theorem i71_33 : xIns xg 71 33 = some (.ireturn) := by decide +kernel
theorem m71 : (xMet xg 71).2.2 = (3, (some .int)) := by decide +kernel
theorem i71_12 : xIns xg 71 12 = some (.iload_n 1) := by decide +kernel
theorem i71_13 : xIns xg 71 13 = some (.aload_n 0) := by decide +kernel
theorem i71_14 : xIns xg 71 14 = some (.getfield 19) := by decide +kernel
theorem i71_17 : xIns xg 71 17 = some (.aload_n 0) := by decide +kernel
theorem i71_18 : xIns xg 71 18 = some (.getfield 49) := by decide +kernel
theorem i71_21 : xIns xg 71 21 = some (.iload_n 2) := by decide +kernel
theorem i71_22 : xIns xg 71 22 = some (.iaload) := by decide +kernel
theorem i71_23 : xIns xg 71 23 = some (.iaload) := by decide +kernel
theorem i71_24 : xIns xg 71 24 = some (.iadd) := by decide +kernel
theorem i71_25 : xIns xg 71 25 = some (.istore_n 1) := by decide +kernel
theorem i71_26 : xIns xg 71 26 = some (.iinc 2 1) := by decide +kernel
theorem i71_29 : xIns xg 71 29 = some (.goto (-25)) := by decide +kernel
theorem i71_0 : xIns xg 71 0 = some (.iconst 0) := by decide +kernel
theorem i71_1 : xIns xg 71 1 = some (.istore_n 1) := by decide +kernel
theorem i71_2 : xIns xg 71 2 = some (.iconst 0) := by decide +kernel
theorem i71_3 : xIns xg 71 3 = some (.istore_n 2) := by decide +kernel
def d_x6_allHeads_4 (N : Nat) (t : Nat)  (k4 : St → Int → Int → Option Rs) (s : St) (x1 : Int) (x2 : Int) : Option Rs :=
  (if (w32 x2) < (w32 (s t 11)) then if 0 ≤ (w32 x2) ∧ (w32 x2) < ((192 : Nat) : Int) then if 0 ≤ (w32 (s (t + 11) (Int.toNat (w32 x2)))) ∧ (w32 (s (t + 11) (Int.toNat (w32 x2)))) < ((192 : Nat) : Int) then bd (x1 + (s (t + 2) (Int.toNat (w32 (s (t + 11) (Int.toNat (w32 x2))))))) fun v1 => bd (x2 + 1) fun v2 => k4 s v1 v2 else none else none else some (s, x1))
def d_x6_allHeads_4L (N : Nat) (t : Nat)  : Nat → St → Int → Int → Option Rs
  | 0 => fun _ _ _ => none
  | n + 1 => d_x6_allHeads_4 N t  (d_x6_allHeads_4L N t  n)
set_option maxHeartbeats 4000000 in
set_option maxRecDepth 100000 in
theorem c_x6_allHeads_4 {sc : xS} {d : Nat} {R : Rs} (N : Nat) (t : Nat) (H : isTold t) (hd : 0 ≤ d)   (k4 : St → Int → Int → Option Rs) (hk4 : ∀ (s : St) (x1 : Int) (x2 : Int), k4 s x1 x2 = some R → vT sc d 71 4 [(0, .ref t), (1, vi x1), (2, vi x2)] [] s (fun r => r = qI R)) (s : St) (x1 : Int) (x2 : Int) : d_x6_allHeads_4 N t  k4 s x1 x2 = some R → vT sc d 71 4 [(0, .ref t), (1, vi x1), (2, vi x2)] [] s (fun r => r = qI R) := by
  unfold d_x6_allHeads_4
  refine vLin 5 i71_4 rfl rfl ?_
  refine vLan 6 i71_5 rfl rfl ?_
  refine vGet 9 i71_6 f71_9 (told_0 H) rfl rfl ?_
  refine vCge 32 12 rfl rfl i71_9 rfl rfl ?_ ?_
  · refine vLin 33 i71_32 rfl rfl ?_
    exact vRi i71_33 m71 rfl
  · refine vLin 13 i71_12 rfl rfl ?_
    refine vLan 14 i71_13 rfl rfl ?_
    refine vGetC 17 i71_14 f71_19 (told_0 H) rfl rfl ?_
    refine vLan 18 i71_17 rfl rfl ?_
    refine vGetC 21 i71_18 f71_49 (told_0 H) rfl rfl ?_
    refine vLin 22 i71_21 rfl rfl ?_
    refine vIal 23 rfl i71_22 (told_11 H) rfl ?_
    refine vIal 24 rfl i71_23 (told_2 H) rfl ?_
    refine vIadd 25 i71_24 rfl ?_
    refine vSin 26 (fun v1 => [(1, vi v1), (0, .ref t), (2, vi x2)]) i71_25 m71 (by decide) (fun v1 => (rfl : xst1 [(0, .ref t), (1, vi x1), (2, vi x2)] 1 (vi v1) = [(1, vi v1), (0, .ref t), (2, vi x2)])) rfl (fun v1 => ?_)
    refine vInc 29 (fun v2 => [(2, vi v2), (1, vi v1), (0, .ref t)]) i71_26 m71 (by decide) rfl (fun _ => rfl) rfl (fun v2 => ?_)
    refine vGo 4 i71_29 rfl ?_
    exact fun hD => tLc [(0, .ref t), (1, vi v1), (2, vi v2)] (xNdk [0, 1, 2] rfl (by decide)) (xNdk [2, 1, 0] rfl (by decide)) ⟨rfl, rfl, rfl, trivial⟩ (hk4 s v1 v2 hD)
theorem c_x6_allHeads_4L {sc : xS} {d : Nat} {R : Rs} (N : Nat) (t : Nat) (H : isTold t) (hd : 0 ≤ d)   : ∀ (n : Nat) (s : St) (x1 : Int) (x2 : Int), d_x6_allHeads_4L N t  n s x1 x2 = some R → vT sc d 71 4 [(0, .ref t), (1, vi x1), (2, vi x2)] [] s (fun r => r = qI R) := by
  intro n
  induction n with
  | zero => intro s x1 x2 hD; cases hD
  | succ n ih => intro s x1 x2 hD; exact c_x6_allHeads_4 N t H hd  _ ih s x1 x2 hD
def d_x6_allHeads (N : Nat) (t : Nat)  (s : St)  : Option Rs :=
  d_x6_allHeads_4L N t  N s 0 0
set_option maxHeartbeats 4000000 in
set_option maxRecDepth 100000 in
theorem c_x6_allHeads {sc : xS} {d : Nat} {R : Rs} (N : Nat) (t : Nat) (H : isTold t) (hd : 0 ≤ d)   (s : St)  : d_x6_allHeads N t  s  = some R → vT sc d 71 0 [(0, .ref t)] [] s (fun r => r = qI R) := by
  unfold d_x6_allHeads
  refine vK 1 i71_0 rfl ?_
  refine vSin0 2 [(1, vi 0), (0, .ref t)] i71_1 m71 (by decide) rfl rfl ?_
  refine vK 3 i71_2 rfl ?_
  refine vSin0 4 [(2, vi 0), (1, vi 0), (0, .ref t)] i71_3 m71 (by decide) rfl rfl ?_
  exact fun hD => tLc [(0, .ref t), (1, vi 0), (2, vi 0)] (xNdk [0, 1, 2] rfl (by decide)) (xNdk [2, 1, 0] rfl (by decide)) ⟨rfl, rfl, rfl, trivial⟩ (c_x6_allHeads_4L N t H hd  N s 0 0 hD)
theorem f72_9 : xFld xg 72 9 = some (5, 11) := by decide +kernel
theorem f72_15 : xFld xg 72 15 = some (5, 0) := by decide +kernel
theorem f72_49 : xFld xg 72 49 = some (5, 10) := by decide +kernel
theorem i72_4 : xIns xg 72 4 = some (.iload_n 2) := by decide +kernel
theorem i72_5 : xIns xg 72 5 = some (.aload_n 0) := by decide +kernel
theorem i72_6 : xIns xg 72 6 = some (.getfield 9) := by decide +kernel
theorem i72_9 : xIns xg 72 9 = some (.if_icmp .ge 23) := by decide +kernel
theorem i72_32 : xIns xg 72 32 = some (.iload_n 1) := by decide +kernel
theorem i72_33 : xIns xg 72 33 = some (.ireturn) := by decide +kernel
theorem m72 : (xMet xg 72).2.2 = (3, (some .int)) := by decide +kernel
theorem i72_12 : xIns xg 72 12 = some (.iload_n 1) := by decide +kernel
theorem i72_13 : xIns xg 72 13 = some (.aload_n 0) := by decide +kernel
theorem i72_14 : xIns xg 72 14 = some (.getfield 15) := by decide +kernel
theorem i72_17 : xIns xg 72 17 = some (.aload_n 0) := by decide +kernel
theorem i72_18 : xIns xg 72 18 = some (.getfield 49) := by decide +kernel
theorem i72_21 : xIns xg 72 21 = some (.iload_n 2) := by decide +kernel
theorem i72_22 : xIns xg 72 22 = some (.iaload) := by decide +kernel
theorem i72_23 : xIns xg 72 23 = some (.iaload) := by decide +kernel
theorem i72_24 : xIns xg 72 24 = some (.iadd) := by decide +kernel
theorem i72_25 : xIns xg 72 25 = some (.istore_n 1) := by decide +kernel
theorem i72_26 : xIns xg 72 26 = some (.iinc 2 1) := by decide +kernel
theorem i72_29 : xIns xg 72 29 = some (.goto (-25)) := by decide +kernel
theorem i72_0 : xIns xg 72 0 = some (.iconst 0) := by decide +kernel
theorem i72_1 : xIns xg 72 1 = some (.istore_n 1) := by decide +kernel
theorem i72_2 : xIns xg 72 2 = some (.iconst 0) := by decide +kernel
theorem i72_3 : xIns xg 72 3 = some (.istore_n 2) := by decide +kernel
def d_x6_allPlaces_4 (N : Nat) (t : Nat)  (k4 : St → Int → Int → Option Rs) (s : St) (x1 : Int) (x2 : Int) : Option Rs :=
  (if (w32 x2) < (w32 (s t 11)) then if 0 ≤ (w32 x2) ∧ (w32 x2) < ((192 : Nat) : Int) then if 0 ≤ (w32 (s (t + 11) (Int.toNat (w32 x2)))) ∧ (w32 (s (t + 11) (Int.toNat (w32 x2)))) < ((192 : Nat) : Int) then bd (x1 + (s (t + 1) (Int.toNat (w32 (s (t + 11) (Int.toNat (w32 x2))))))) fun v1 => bd (x2 + 1) fun v2 => k4 s v1 v2 else none else none else some (s, x1))
def d_x6_allPlaces_4L (N : Nat) (t : Nat)  : Nat → St → Int → Int → Option Rs
  | 0 => fun _ _ _ => none
  | n + 1 => d_x6_allPlaces_4 N t  (d_x6_allPlaces_4L N t  n)
set_option maxHeartbeats 4000000 in
set_option maxRecDepth 100000 in
theorem c_x6_allPlaces_4 {sc : xS} {d : Nat} {R : Rs} (N : Nat) (t : Nat) (H : isTold t) (hd : 0 ≤ d)   (k4 : St → Int → Int → Option Rs) (hk4 : ∀ (s : St) (x1 : Int) (x2 : Int), k4 s x1 x2 = some R → vT sc d 72 4 [(0, .ref t), (1, vi x1), (2, vi x2)] [] s (fun r => r = qI R)) (s : St) (x1 : Int) (x2 : Int) : d_x6_allPlaces_4 N t  k4 s x1 x2 = some R → vT sc d 72 4 [(0, .ref t), (1, vi x1), (2, vi x2)] [] s (fun r => r = qI R) := by
  unfold d_x6_allPlaces_4
  refine vLin 5 i72_4 rfl rfl ?_
  refine vLan 6 i72_5 rfl rfl ?_
  refine vGet 9 i72_6 f72_9 (told_0 H) rfl rfl ?_
  refine vCge 32 12 rfl rfl i72_9 rfl rfl ?_ ?_
  · refine vLin 33 i72_32 rfl rfl ?_
    exact vRi i72_33 m72 rfl
  · refine vLin 13 i72_12 rfl rfl ?_
    refine vLan 14 i72_13 rfl rfl ?_
    refine vGetC 17 i72_14 f72_15 (told_0 H) rfl rfl ?_
    refine vLan 18 i72_17 rfl rfl ?_
    refine vGetC 21 i72_18 f72_49 (told_0 H) rfl rfl ?_
    refine vLin 22 i72_21 rfl rfl ?_
    refine vIal 23 rfl i72_22 (told_11 H) rfl ?_
    refine vIal 24 rfl i72_23 (told_1 H) rfl ?_
    refine vIadd 25 i72_24 rfl ?_
    refine vSin 26 (fun v1 => [(1, vi v1), (0, .ref t), (2, vi x2)]) i72_25 m72 (by decide) (fun v1 => (rfl : xst1 [(0, .ref t), (1, vi x1), (2, vi x2)] 1 (vi v1) = [(1, vi v1), (0, .ref t), (2, vi x2)])) rfl (fun v1 => ?_)
    refine vInc 29 (fun v2 => [(2, vi v2), (1, vi v1), (0, .ref t)]) i72_26 m72 (by decide) rfl (fun _ => rfl) rfl (fun v2 => ?_)
    refine vGo 4 i72_29 rfl ?_
    exact fun hD => tLc [(0, .ref t), (1, vi v1), (2, vi v2)] (xNdk [0, 1, 2] rfl (by decide)) (xNdk [2, 1, 0] rfl (by decide)) ⟨rfl, rfl, rfl, trivial⟩ (hk4 s v1 v2 hD)
theorem c_x6_allPlaces_4L {sc : xS} {d : Nat} {R : Rs} (N : Nat) (t : Nat) (H : isTold t) (hd : 0 ≤ d)   : ∀ (n : Nat) (s : St) (x1 : Int) (x2 : Int), d_x6_allPlaces_4L N t  n s x1 x2 = some R → vT sc d 72 4 [(0, .ref t), (1, vi x1), (2, vi x2)] [] s (fun r => r = qI R) := by
  intro n
  induction n with
  | zero => intro s x1 x2 hD; cases hD
  | succ n ih => intro s x1 x2 hD; exact c_x6_allPlaces_4 N t H hd  _ ih s x1 x2 hD
def d_x6_allPlaces (N : Nat) (t : Nat)  (s : St)  : Option Rs :=
  d_x6_allPlaces_4L N t  N s 0 0
set_option maxHeartbeats 4000000 in
set_option maxRecDepth 100000 in
theorem c_x6_allPlaces {sc : xS} {d : Nat} {R : Rs} (N : Nat) (t : Nat) (H : isTold t) (hd : 0 ≤ d)   (s : St)  : d_x6_allPlaces N t  s  = some R → vT sc d 72 0 [(0, .ref t)] [] s (fun r => r = qI R) := by
  unfold d_x6_allPlaces
  refine vK 1 i72_0 rfl ?_
  refine vSin0 2 [(1, vi 0), (0, .ref t)] i72_1 m72 (by decide) rfl rfl ?_
  refine vK 3 i72_2 rfl ?_
  refine vSin0 4 [(2, vi 0), (1, vi 0), (0, .ref t)] i72_3 m72 (by decide) rfl rfl ?_
  exact fun hD => tLc [(0, .ref t), (1, vi 0), (2, vi 0)] (xNdk [0, 1, 2] rfl (by decide)) (xNdk [2, 1, 0] rfl (by decide)) ⟨rfl, rfl, rfl, trivial⟩ (c_x6_allPlaces_4L N t H hd  N s 0 0 hD)
theorem f64_9 : xFld xg 64 9 = some (4, 0) := by decide +kernel
theorem i64_25 : xIns xg 64 25 = some (.iinc 2 1) := by decide +kernel
theorem m64 : (xMet xg 64).2.2 = (3, (some .int)) := by decide +kernel
theorem i64_28 : xIns xg 64 28 = some (.goto (-24)) := by decide +kernel
theorem i64_4 : xIns xg 64 4 = some (.iload_n 2) := by decide +kernel
theorem i64_5 : xIns xg 64 5 = some (.aload_n 0) := by decide +kernel
theorem i64_6 : xIns xg 64 6 = some (.getfield 9) := by decide +kernel
theorem i64_9 : xIns xg 64 9 = some (.arraylength) := by decide +kernel
theorem i64_10 : xIns xg 64 10 = some (.if_icmp .ge 21) := by decide +kernel
theorem i64_31 : xIns xg 64 31 = some (.iload_n 1) := by decide +kernel
theorem i64_32 : xIns xg 64 32 = some (.ireturn) := by decide +kernel
theorem i64_13 : xIns xg 64 13 = some (.aload_n 0) := by decide +kernel
theorem i64_14 : xIns xg 64 14 = some (.getfield 9) := by decide +kernel
theorem i64_17 : xIns xg 64 17 = some (.iload_n 2) := by decide +kernel
theorem i64_18 : xIns xg 64 18 = some (.iaload) := by decide +kernel
theorem i64_19 : xIns xg 64 19 = some (.ifCond .le 6) := by decide +kernel
theorem i64_22 : xIns xg 64 22 = some (.iinc 1 1) := by decide +kernel
theorem i64_0 : xIns xg 64 0 = some (.iconst 0) := by decide +kernel
theorem i64_1 : xIns xg 64 1 = some (.istore_n 1) := by decide +kernel
theorem i64_2 : xIns xg 64 2 = some (.iconst 0) := by decide +kernel
theorem i64_3 : xIns xg 64 3 = some (.istore_n 2) := by decide +kernel
def d_x5_filledStreams_25 (N : Nat) (t : Nat) (u : Nat) (k4 : St → Int → Int → Option Rs) (s : St) (x1 : Int) (x2 : Int) : Option Rs :=
  bd (x2 + 1) fun v1 => k4 s x1 v1
set_option maxHeartbeats 4000000 in
set_option maxRecDepth 100000 in
theorem c_x5_filledStreams_25 {sc : xS} {d : Nat} {R : Rs} (N : Nat) (t : Nat) (u : Nat) (H : isTexts t u) (hd : 0 ≤ d) (k4 : St → Int → Int → Option Rs) (hk4 : ∀ (s : St) (x1 : Int) (x2 : Int), k4 s x1 x2 = some R → vT sc d 64 4 [(0, .ref t), (1, vi x1), (2, vi x2)] [] s (fun r => r = qI R))  (s : St) (x1 : Int) (x2 : Int) : d_x5_filledStreams_25 N t u k4 s x1 x2 = some R → vT sc d 64 25 [(0, .ref t), (1, vi x1), (2, vi x2)] [] s (fun r => r = qI R) := by
  unfold d_x5_filledStreams_25
  refine vInc 28 (fun v1 => [(2, vi v1), (0, .ref t), (1, vi x1)]) i64_25 m64 (by decide) rfl (fun _ => rfl) rfl (fun v1 => ?_)
  refine vGo 4 i64_28 rfl ?_
  exact fun hD => tLc [(0, .ref t), (1, vi x1), (2, vi v1)] (xNdk [0, 1, 2] rfl (by decide)) (xNdk [2, 0, 1] rfl (by decide)) ⟨rfl, rfl, rfl, trivial⟩ (hk4 s x1 v1 hD)
def d_x5_filledStreams_4 (N : Nat) (t : Nat) (u : Nat)  (k4 : St → Int → Int → Option Rs) (s : St) (x1 : Int) (x2 : Int) : Option Rs :=
  (if (w32 x2) < (w32 ((u : Nat) : Int)) then if 0 ≤ (w32 x2) ∧ (w32 x2) < ((u : Nat) : Int) then (if 0 < (w32 (s (t + 1) (Int.toNat (w32 x2)))) then bd (x1 + 1) fun v2 => d_x5_filledStreams_25 N t u k4 s v2 x2 else d_x5_filledStreams_25 N t u k4 s x1 x2) else none else some (s, x1))
def d_x5_filledStreams_4L (N : Nat) (t : Nat) (u : Nat)  : Nat → St → Int → Int → Option Rs
  | 0 => fun _ _ _ => none
  | n + 1 => d_x5_filledStreams_4 N t u  (d_x5_filledStreams_4L N t u  n)
set_option maxHeartbeats 4000000 in
set_option maxRecDepth 100000 in
theorem c_x5_filledStreams_4 {sc : xS} {d : Nat} {R : Rs} (N : Nat) (t : Nat) (u : Nat) (H : isTexts t u) (hd : 0 ≤ d)   (k4 : St → Int → Int → Option Rs) (hk4 : ∀ (s : St) (x1 : Int) (x2 : Int), k4 s x1 x2 = some R → vT sc d 64 4 [(0, .ref t), (1, vi x1), (2, vi x2)] [] s (fun r => r = qI R)) (s : St) (x1 : Int) (x2 : Int) : d_x5_filledStreams_4 N t u  k4 s x1 x2 = some R → vT sc d 64 4 [(0, .ref t), (1, vi x1), (2, vi x2)] [] s (fun r => r = qI R) := by
  unfold d_x5_filledStreams_4
  refine vLin 5 i64_4 rfl rfl ?_
  refine vLan 6 i64_5 rfl rfl ?_
  refine vGetC 9 i64_6 f64_9 (texts_0 H) rfl rfl ?_
  refine vAln 10 (Or.inl rfl) i64_9 (texts_1 H) rfl ?_
  refine vCge 31 13 rfl rfl i64_10 rfl rfl ?_ ?_
  · refine vLin 32 i64_31 rfl rfl ?_
    exact vRi i64_32 m64 rfl
  · refine vLan 14 i64_13 rfl rfl ?_
    refine vGetC 17 i64_14 f64_9 (texts_0 H) rfl rfl ?_
    refine vLin 18 i64_17 rfl rfl ?_
    refine vIal 19 rfl i64_18 (texts_1 H) rfl ?_
    refine vZle 25 22 rfl i64_19 rfl rfl ?_ ?_
    · exact fun hD => c_x5_filledStreams_25 N t u H hd k4 hk4 s x1 x2 hD
    · refine vInc 25 (fun v2 => [(1, vi v2), (0, .ref t), (2, vi x2)]) i64_22 m64 (by decide) rfl (fun _ => rfl) rfl (fun v2 => ?_)
      exact fun hD => tLc [(0, .ref t), (1, vi v2), (2, vi x2)] (xNdk [0, 1, 2] rfl (by decide)) (xNdk [1, 0, 2] rfl (by decide)) ⟨rfl, rfl, rfl, trivial⟩ (c_x5_filledStreams_25 N t u H hd k4 hk4 s v2 x2 hD)
theorem c_x5_filledStreams_4L {sc : xS} {d : Nat} {R : Rs} (N : Nat) (t : Nat) (u : Nat) (H : isTexts t u) (hd : 0 ≤ d)   : ∀ (n : Nat) (s : St) (x1 : Int) (x2 : Int), d_x5_filledStreams_4L N t u  n s x1 x2 = some R → vT sc d 64 4 [(0, .ref t), (1, vi x1), (2, vi x2)] [] s (fun r => r = qI R) := by
  intro n
  induction n with
  | zero => intro s x1 x2 hD; cases hD
  | succ n ih => intro s x1 x2 hD; exact c_x5_filledStreams_4 N t u H hd  _ ih s x1 x2 hD
def d_x5_filledStreams (N : Nat) (t : Nat) (u : Nat)  (s : St)  : Option Rs :=
  d_x5_filledStreams_4L N t u  N s 0 0
set_option maxHeartbeats 4000000 in
set_option maxRecDepth 100000 in
theorem c_x5_filledStreams {sc : xS} {d : Nat} {R : Rs} (N : Nat) (t : Nat) (u : Nat) (H : isTexts t u) (hd : 0 ≤ d)   (s : St)  : d_x5_filledStreams N t u  s  = some R → vT sc d 64 0 [(0, .ref t)] [] s (fun r => r = qI R) := by
  unfold d_x5_filledStreams
  refine vK 1 i64_0 rfl ?_
  refine vSin0 2 [(1, vi 0), (0, .ref t)] i64_1 m64 (by decide) rfl rfl ?_
  refine vK 3 i64_2 rfl ?_
  refine vSin0 4 [(2, vi 0), (1, vi 0), (0, .ref t)] i64_3 m64 (by decide) rfl rfl ?_
  exact fun hD => tLc [(0, .ref t), (1, vi 0), (2, vi 0)] (xNdk [0, 1, 2] rfl (by decide)) (xNdk [2, 1, 0] rfl (by decide)) ⟨rfl, rfl, rfl, trivial⟩ (c_x5_filledStreams_4L N t u H hd  N s 0 0 hD)
theorem f68_9 : xFld xg 68 9 = some (4, 0) := by decide +kernel
theorem i68_2 : xIns xg 68 2 = some (.iload_n 2) := by decide +kernel
theorem i68_3 : xIns xg 68 3 = some (.aload_n 0) := by decide +kernel
theorem i68_4 : xIns xg 68 4 = some (.getfield 9) := by decide +kernel
theorem i68_7 : xIns xg 68 7 = some (.arraylength) := by decide +kernel
theorem i68_8 : xIns xg 68 8 = some (.if_icmp .ge 25) := by decide +kernel
theorem i68_33 : xIns xg 68 33 = some (.return_) := by decide +kernel
theorem m68 : (xMet xg 68).2.2 = (3, none) := by decide +kernel
theorem i68_11 : xIns xg 68 11 = some (.iload_n 2) := by decide +kernel
theorem i68_12 : xIns xg 68 12 = some (.aload_n 1) := by decide +kernel
theorem i68_13 : xIns xg 68 13 = some (.getfield 9) := by decide +kernel
theorem i68_16 : xIns xg 68 16 = some (.arraylength) := by decide +kernel
theorem i68_17 : xIns xg 68 17 = some (.if_icmp .ge 16) := by decide +kernel
theorem i68_20 : xIns xg 68 20 = some (.aload_n 0) := by decide +kernel
theorem i68_21 : xIns xg 68 21 = some (.aload_n 1) := by decide +kernel
theorem i68_22 : xIns xg 68 22 = some (.iload_n 2) := by decide +kernel
theorem i68_23 : xIns xg 68 23 = some (.iload_n 2) := by decide +kernel
theorem i68_24 : xIns xg 68 24 = some (.invokevirtual 47) := by decide +kernel
theorem i68_27 : xIns xg 68 27 = some (.iinc 2 1) := by decide +kernel
theorem i68_30 : xIns xg 68 30 = some (.goto (-28)) := by decide +kernel
theorem i68_0 : xIns xg 68 0 = some (.iconst 0) := by decide +kernel
theorem i68_1 : xIns xg 68 1 = some (.istore_n 2) := by decide +kernel
def d_x5_takeAll_2 (N : Nat) (t : Nat) (u : Nat) (t2 : Nat) (u2 : Nat)  (k2 : St → Int → Option Rs) (s : St) (x2 : Int) : Option Rs :=
  (if (w32 x2) < (w32 ((u : Nat) : Int)) then (if (w32 x2) < (w32 ((u2 : Nat) : Int)) then bV (d_x5_takeStream N t u t2 u2 s x2 x2) fun s1 => bd (x2 + 1) fun v3 => k2 s1 v3 else some (s, 0)) else some (s, 0))
def d_x5_takeAll_2L (N : Nat) (t : Nat) (u : Nat) (t2 : Nat) (u2 : Nat)  : Nat → St → Int → Option Rs
  | 0 => fun _ _ => none
  | n + 1 => d_x5_takeAll_2 N t u t2 u2  (d_x5_takeAll_2L N t u t2 u2  n)
set_option maxHeartbeats 4000000 in
set_option maxRecDepth 100000 in
theorem c_x5_takeAll_2 {sc : xS} {d : Nat} {R : Rs} (N : Nat) (t : Nat) (u : Nat) (t2 : Nat) (u2 : Nat) (H : isTexts t u) (H2 : isTexts t2 u2) (hd : 3 ≤ d)   (k2 : St → Int → Option Rs) (hk2 : ∀ (s : St) (x2 : Int), k2 s x2 = some R → vT sc d 68 2 [(0, .ref t), (1, .ref t2), (2, vi x2)] [] s (fun r => r = qV R)) (s : St) (x2 : Int) : d_x5_takeAll_2 N t u t2 u2  k2 s x2 = some R → vT sc d 68 2 [(0, .ref t), (1, .ref t2), (2, vi x2)] [] s (fun r => r = qV R) := by
  obtain ⟨d, rfl⟩ : ∃ d', d = d' + 1 := ⟨d - 1, by omega⟩
  unfold d_x5_takeAll_2
  refine vLin 3 i68_2 rfl rfl ?_
  refine vLan 4 i68_3 rfl rfl ?_
  refine vGetC 7 i68_4 f68_9 (texts_0 H) rfl rfl ?_
  refine vAln 8 (Or.inl rfl) i68_7 (texts_1 H) rfl ?_
  refine vCge 33 11 rfl rfl i68_8 rfl rfl ?_ ?_
  · exact vR0 i68_33 m68
  · refine vLin 12 i68_11 rfl rfl ?_
    refine vLan 13 i68_12 rfl rfl ?_
    refine vGetC 16 i68_13 f68_9 (texts_0 H2) rfl rfl ?_
    refine vAln 17 (Or.inl rfl) i68_16 (texts_1 H2) rfl ?_
    refine vCge 33 20 rfl rfl i68_17 rfl rfl ?_ ?_
    · exact vR0 i68_33 m68
    · refine vLan 21 i68_20 rfl rfl ?_
      refine vLan 22 i68_21 rfl rfl ?_
      refine vLin 23 i68_22 rfl rfl ?_
      refine vLin 24 i68_23 rfl rfl ?_
      refine vCallV 27 [.ref t, .ref t2, vi x2, vi x2] [] [(0, .ref t), (1, .ref t2), (2, vi x2), (3, vi x2)] i68_24 rfl (xlk0 l68_47) (Or.inl rfl) m70 rfl rfl (Nat.le_of_ble_eq_true rfl) (Nat.le_of_ble_eq_true rfl) (Nat.le_of_ble_eq_true rfl) (xh0 (texts_0 H) (by decide)) rfl rfl (fun R1 => c_x5_takeStream N t u t2 u2 H H2 (by omega) s x2 x2) (fun s1 => ?_)
      refine vInc 30 (fun v3 => [(2, vi v3), (0, .ref t), (1, .ref t2)]) i68_27 m68 (by decide) rfl (fun _ => rfl) rfl (fun v3 => ?_)
      refine vGo 2 i68_30 rfl ?_
      exact fun hD => tLc [(0, .ref t), (1, .ref t2), (2, vi v3)] (xNdk [0, 1, 2] rfl (by decide)) (xNdk [2, 0, 1] rfl (by decide)) ⟨rfl, rfl, rfl, trivial⟩ (hk2 s1 v3 hD)
theorem c_x5_takeAll_2L {sc : xS} {d : Nat} {R : Rs} (N : Nat) (t : Nat) (u : Nat) (t2 : Nat) (u2 : Nat) (H : isTexts t u) (H2 : isTexts t2 u2) (hd : 3 ≤ d)   : ∀ (n : Nat) (s : St) (x2 : Int), d_x5_takeAll_2L N t u t2 u2  n s x2 = some R → vT sc d 68 2 [(0, .ref t), (1, .ref t2), (2, vi x2)] [] s (fun r => r = qV R) := by
  intro n
  induction n with
  | zero => intro s x2 hD; cases hD
  | succ n ih => intro s x2 hD; exact c_x5_takeAll_2 N t u t2 u2 H H2 hd  _ ih s x2 hD
def d_x5_takeAll (N : Nat) (t : Nat) (u : Nat) (t2 : Nat) (u2 : Nat)  (s : St)  : Option Rs :=
  d_x5_takeAll_2L N t u t2 u2  N s 0
set_option maxHeartbeats 4000000 in
set_option maxRecDepth 100000 in
theorem c_x5_takeAll {sc : xS} {d : Nat} {R : Rs} (N : Nat) (t : Nat) (u : Nat) (t2 : Nat) (u2 : Nat) (H : isTexts t u) (H2 : isTexts t2 u2) (hd : 3 ≤ d)   (s : St)  : d_x5_takeAll N t u t2 u2  s  = some R → vT sc d 68 0 [(0, .ref t), (1, .ref t2)] [] s (fun r => r = qV R) := by
  obtain ⟨d, rfl⟩ : ∃ d', d = d' + 1 := ⟨d - 1, by omega⟩
  unfold d_x5_takeAll
  refine vK 1 i68_0 rfl ?_
  refine vSin0 2 [(2, vi 0), (0, .ref t), (1, .ref t2)] i68_1 m68 (by decide) rfl rfl ?_
  exact fun hD => tLc [(0, .ref t), (1, .ref t2), (2, vi 0)] (xNdk [0, 1, 2] rfl (by decide)) (xNdk [2, 0, 1] rfl (by decide)) ⟨rfl, rfl, rfl, trivial⟩ (c_x5_takeAll_2L N t u t2 u2 H H2 hd  N s 0 hD)
theorem f61_9 : xFld xg 61 9 = some (4, 0) := by decide +kernel
theorem i61_4 : xIns xg 61 4 = some (.iload_n 2) := by decide +kernel
theorem i61_5 : xIns xg 61 5 = some (.aload_n 0) := by decide +kernel
theorem i61_6 : xIns xg 61 6 = some (.getfield 9) := by decide +kernel
theorem i61_9 : xIns xg 61 9 = some (.arraylength) := by decide +kernel
theorem i61_10 : xIns xg 61 10 = some (.if_icmp .ge 18) := by decide +kernel
theorem i61_28 : xIns xg 61 28 = some (.iload_n 1) := by decide +kernel
theorem i61_29 : xIns xg 61 29 = some (.ireturn) := by decide +kernel
theorem m61 : (xMet xg 61).2.2 = (3, (some .int)) := by decide +kernel
theorem i61_13 : xIns xg 61 13 = some (.iload_n 1) := by decide +kernel
theorem i61_14 : xIns xg 61 14 = some (.aload_n 0) := by decide +kernel
theorem i61_15 : xIns xg 61 15 = some (.getfield 9) := by decide +kernel
theorem i61_18 : xIns xg 61 18 = some (.iload_n 2) := by decide +kernel
theorem i61_19 : xIns xg 61 19 = some (.iaload) := by decide +kernel
theorem i61_20 : xIns xg 61 20 = some (.iadd) := by decide +kernel
theorem i61_21 : xIns xg 61 21 = some (.istore_n 1) := by decide +kernel
theorem i61_22 : xIns xg 61 22 = some (.iinc 2 1) := by decide +kernel
theorem i61_25 : xIns xg 61 25 = some (.goto (-21)) := by decide +kernel
theorem i61_0 : xIns xg 61 0 = some (.iconst 0) := by decide +kernel
theorem i61_1 : xIns xg 61 1 = some (.istore_n 1) := by decide +kernel
theorem i61_2 : xIns xg 61 2 = some (.iconst 0) := by decide +kernel
theorem i61_3 : xIns xg 61 3 = some (.istore_n 2) := by decide +kernel
def d_x5_allParts_4 (N : Nat) (t : Nat) (u : Nat)  (k4 : St → Int → Int → Option Rs) (s : St) (x1 : Int) (x2 : Int) : Option Rs :=
  (if (w32 x2) < (w32 ((u : Nat) : Int)) then if 0 ≤ (w32 x2) ∧ (w32 x2) < ((u : Nat) : Int) then bd (x1 + (s (t + 1) (Int.toNat (w32 x2)))) fun v1 => bd (x2 + 1) fun v2 => k4 s v1 v2 else none else some (s, x1))
def d_x5_allParts_4L (N : Nat) (t : Nat) (u : Nat)  : Nat → St → Int → Int → Option Rs
  | 0 => fun _ _ _ => none
  | n + 1 => d_x5_allParts_4 N t u  (d_x5_allParts_4L N t u  n)
set_option maxHeartbeats 4000000 in
set_option maxRecDepth 100000 in
theorem c_x5_allParts_4 {sc : xS} {d : Nat} {R : Rs} (N : Nat) (t : Nat) (u : Nat) (H : isTexts t u) (hd : 0 ≤ d)   (k4 : St → Int → Int → Option Rs) (hk4 : ∀ (s : St) (x1 : Int) (x2 : Int), k4 s x1 x2 = some R → vT sc d 61 4 [(0, .ref t), (1, vi x1), (2, vi x2)] [] s (fun r => r = qI R)) (s : St) (x1 : Int) (x2 : Int) : d_x5_allParts_4 N t u  k4 s x1 x2 = some R → vT sc d 61 4 [(0, .ref t), (1, vi x1), (2, vi x2)] [] s (fun r => r = qI R) := by
  unfold d_x5_allParts_4
  refine vLin 5 i61_4 rfl rfl ?_
  refine vLan 6 i61_5 rfl rfl ?_
  refine vGetC 9 i61_6 f61_9 (texts_0 H) rfl rfl ?_
  refine vAln 10 (Or.inl rfl) i61_9 (texts_1 H) rfl ?_
  refine vCge 28 13 rfl rfl i61_10 rfl rfl ?_ ?_
  · refine vLin 29 i61_28 rfl rfl ?_
    exact vRi i61_29 m61 rfl
  · refine vLin 14 i61_13 rfl rfl ?_
    refine vLan 15 i61_14 rfl rfl ?_
    refine vGetC 18 i61_15 f61_9 (texts_0 H) rfl rfl ?_
    refine vLin 19 i61_18 rfl rfl ?_
    refine vIal 20 rfl i61_19 (texts_1 H) rfl ?_
    refine vIadd 21 i61_20 rfl ?_
    refine vSin 22 (fun v1 => [(1, vi v1), (0, .ref t), (2, vi x2)]) i61_21 m61 (by decide) (fun v1 => (rfl : xst1 [(0, .ref t), (1, vi x1), (2, vi x2)] 1 (vi v1) = [(1, vi v1), (0, .ref t), (2, vi x2)])) rfl (fun v1 => ?_)
    refine vInc 25 (fun v2 => [(2, vi v2), (1, vi v1), (0, .ref t)]) i61_22 m61 (by decide) rfl (fun _ => rfl) rfl (fun v2 => ?_)
    refine vGo 4 i61_25 rfl ?_
    exact fun hD => tLc [(0, .ref t), (1, vi v1), (2, vi v2)] (xNdk [0, 1, 2] rfl (by decide)) (xNdk [2, 1, 0] rfl (by decide)) ⟨rfl, rfl, rfl, trivial⟩ (hk4 s v1 v2 hD)
theorem c_x5_allParts_4L {sc : xS} {d : Nat} {R : Rs} (N : Nat) (t : Nat) (u : Nat) (H : isTexts t u) (hd : 0 ≤ d)   : ∀ (n : Nat) (s : St) (x1 : Int) (x2 : Int), d_x5_allParts_4L N t u  n s x1 x2 = some R → vT sc d 61 4 [(0, .ref t), (1, vi x1), (2, vi x2)] [] s (fun r => r = qI R) := by
  intro n
  induction n with
  | zero => intro s x1 x2 hD; cases hD
  | succ n ih => intro s x1 x2 hD; exact c_x5_allParts_4 N t u H hd  _ ih s x1 x2 hD
def d_x5_allParts (N : Nat) (t : Nat) (u : Nat)  (s : St)  : Option Rs :=
  d_x5_allParts_4L N t u  N s 0 0
set_option maxHeartbeats 4000000 in
set_option maxRecDepth 100000 in
theorem c_x5_allParts {sc : xS} {d : Nat} {R : Rs} (N : Nat) (t : Nat) (u : Nat) (H : isTexts t u) (hd : 0 ≤ d)   (s : St)  : d_x5_allParts N t u  s  = some R → vT sc d 61 0 [(0, .ref t)] [] s (fun r => r = qI R) := by
  unfold d_x5_allParts
  refine vK 1 i61_0 rfl ?_
  refine vSin0 2 [(1, vi 0), (0, .ref t)] i61_1 m61 (by decide) rfl rfl ?_
  refine vK 3 i61_2 rfl ?_
  refine vSin0 4 [(2, vi 0), (1, vi 0), (0, .ref t)] i61_3 m61 (by decide) rfl rfl ?_
  exact fun hD => tLc [(0, .ref t), (1, vi 0), (2, vi 0)] (xNdk [0, 1, 2] rfl (by decide)) (xNdk [2, 1, 0] rfl (by decide)) ⟨rfl, rfl, rfl, trivial⟩ (c_x5_allParts_4L N t u H hd  N s 0 0 hD)
