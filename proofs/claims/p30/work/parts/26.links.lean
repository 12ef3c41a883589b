def xnest : xNs := ([("LateRows", 9, yX2_init, "LateRows"), ("LateRows", 18, yX1_init, "LateRows")], xrs)
def xcode (N : Nat) : Bool := match xent N, xpl N with
  | some e, some q => plainName e.1.1.cls && xis q.2.1 (.initialized e.1.1.cls) && !decide (e.1.1.cls = "java/lang/invoke/MethodHandle") && !decide (e.1.1.cls = "java/lang/invoke/VarHandle") && decide (e.1.2.2.1 ≤ 40)
  | _, _ => false
def xcodes (a n : Nat) : Bool := (List.range n).all (fun i => xcode (a + i))
theorem xcodes_0 : xcodes 1 222 = true := by decide +kernel
theorem xcode_all {N : Nat} (h0 : 0 < N) (h : N < 223) : xcode N = true := by
  have := List.all_eq_true.mp xcodes_0 (N - 1) (List.mem_range.mpr (by omega))
  rw [show 1 + (N - 1) = N by omega] at this
  exact this
set_option maxRecDepth 100000 in
theorem xcwX0_allows : Cond.code yX0_allows cX0_allows 2 (some .boolean) ∈ xTs := List.mem_filter.mpr ⟨List.mem_append_right _ (List.mem_append_right _ (List.mem_append_right _ (List.mem_append_left _ (List.mem_of_getElem? (i := 70) (l := tables_1_3) rfl)))), rfl⟩
set_option maxRecDepth 100000 in
theorem xcwX0_hasNumber : Cond.code yX0_hasNumber cX0_hasNumber 1 (some .boolean) ∈ xTs := List.mem_filter.mpr ⟨List.mem_append_right _ (List.mem_append_right _ (List.mem_append_right _ (List.mem_append_left _ (List.mem_of_getElem? (i := 59) (l := tables_1_3) rfl)))), rfl⟩
set_option maxRecDepth 100000 in
theorem xcwX0_rows : Cond.code yX0_rows cX0_rows 1 (some .int) ∈ xTs := List.mem_filter.mpr ⟨List.mem_append_right _ (List.mem_append_right _ (List.mem_append_right _ (List.mem_append_left _ (List.mem_of_getElem? (i := 11) (l := tables_1_3) rfl)))), rfl⟩
set_option maxRecDepth 100000 in
theorem xcwX0_shape : Cond.code yX0_shape cX0_shape 1 (some (.object "java/lang/String")) ∈ xTs := List.mem_filter.mpr ⟨List.mem_append_right _ (List.mem_append_right _ (List.mem_append_left _ (List.mem_of_getElem? (i := 214) (l := tables_1_2) rfl))), rfl⟩
set_option maxRecDepth 100000 in
theorem xcwX0_word : Cond.code yX0_word cX0_word 1 (some (.object "java/lang/String")) ∈ xTs := List.mem_filter.mpr ⟨List.mem_append_right _ (List.mem_append_right _ (List.mem_append_left _ (List.mem_of_getElem? (i := 159) (l := tables_1_2) rfl))), rfl⟩
set_option maxRecDepth 100000 in
theorem xcwX1_init : Cond.code yX1_init cX1_init 1 none ∈ xTs := List.mem_filter.mpr ⟨List.mem_append_right _ (List.mem_append_left _ (List.mem_of_getElem? (i := 121) (l := tables_1_1) rfl)), rfl⟩
set_option maxRecDepth 100000 in
theorem xcwX1_writeBlank : Cond.code yX1_writeBlank cX1_writeBlank 1 none ∈ xTs := List.mem_filter.mpr ⟨List.mem_append_right _ (List.mem_append_right _ (List.mem_append_right _ (List.mem_append_left _ (List.mem_of_getElem? (i := 95) (l := tables_1_3) rfl)))), rfl⟩
set_option maxRecDepth 100000 in
theorem xcwX1_writeByte : Cond.code yX1_writeByte cX1_writeByte 2 none ∈ xTs := List.mem_filter.mpr ⟨List.mem_append_right _ (List.mem_append_right _ (List.mem_append_right _ (List.mem_append_left _ (List.mem_of_getElem? (i := 99) (l := tables_1_3) rfl)))), rfl⟩
set_option maxRecDepth 100000 in
theorem xcwX1_writeField : Cond.code yX1_writeField cX1_writeField 4 none ∈ xTs := List.mem_filter.mpr ⟨List.mem_append_right _ (List.mem_append_right _ (List.mem_append_right _ (List.mem_append_left _ (List.mem_of_getElem? (i := 111) (l := tables_1_3) rfl)))), rfl⟩
set_option maxRecDepth 100000 in
theorem xcwX1_writeNum : Cond.code yX1_writeNum cX1_writeNum 8 none ∈ xTs := List.mem_filter.mpr ⟨List.mem_append_right _ (List.mem_append_right _ (List.mem_append_right _ (List.mem_append_left _ (List.mem_of_getElem? (i := 115) (l := tables_1_3) rfl)))), rfl⟩
set_option maxRecDepth 100000 in
theorem xcwX1_writeNums : Cond.code yX1_writeNums cX1_writeNums 4 none ∈ xTs := List.mem_filter.mpr ⟨List.mem_append_right _ (List.mem_append_right _ (List.mem_append_right _ (List.mem_append_left _ (List.mem_of_getElem? (i := 121) (l := tables_1_3) rfl)))), rfl⟩
set_option maxRecDepth 100000 in
theorem xcwX1_writePart : Cond.code yX1_writePart cX1_writePart 6 none ∈ xTs := List.mem_filter.mpr ⟨List.mem_append_right _ (List.mem_append_right _ (List.mem_append_right _ (List.mem_append_left _ (List.mem_of_getElem? (i := 87) (l := tables_1_3) rfl)))), rfl⟩
set_option maxRecDepth 100000 in
theorem xcwX1_writeSign : Cond.code yX1_writeSign cX1_writeSign 2 none ∈ xTs := List.mem_filter.mpr ⟨List.mem_append_right _ (List.mem_append_right _ (List.mem_append_right _ (List.mem_append_left _ (List.mem_of_getElem? (i := 91) (l := tables_1_3) rfl)))), rfl⟩
set_option maxRecDepth 100000 in
theorem xcwX1_writeStream : Cond.code yX1_writeStream cX1_writeStream 5 none ∈ xTs := List.mem_filter.mpr ⟨List.mem_append_right _ (List.mem_append_right _ (List.mem_append_right _ (List.mem_append_left _ (List.mem_of_getElem? (i := 83) (l := tables_1_3) rfl)))), rfl⟩
set_option maxRecDepth 100000 in
theorem xcwX1_writeWord : Cond.code yX1_writeWord cX1_writeWord 3 none ∈ xTs := List.mem_filter.mpr ⟨List.mem_append_right _ (List.mem_append_right _ (List.mem_append_right _ (List.mem_append_left _ (List.mem_of_getElem? (i := 104) (l := tables_1_3) rfl)))), rfl⟩
set_option maxRecDepth 100000 in
theorem xcwX2_addByte : Cond.code yX2_addByte cX2_addByte 2 (some .int) ∈ xTs := List.mem_filter.mpr ⟨List.mem_append_right _ (List.mem_append_right _ (List.mem_append_left _ (List.mem_of_getElem? (i := 43) (l := tables_1_2) rfl))), rfl⟩
set_option maxRecDepth 100000 in
theorem xcwX2_init : Cond.code yX2_init cX2_init 1 none ∈ xTs := List.mem_filter.mpr ⟨List.mem_append_right _ (List.mem_append_left _ (List.mem_of_getElem? (i := 29) (l := tables_1_1) rfl)), rfl⟩
set_option maxRecDepth 100000 in
theorem xcwX2_isSign : Cond.code yX2_isSign cX2_isSign 2 (some .boolean) ∈ xTs := List.mem_filter.mpr ⟨List.mem_append_right _ (List.mem_append_right _ (List.mem_append_right _ (List.mem_append_left _ (List.mem_of_getElem? (i := 0) (l := tables_1_3) rfl)))), rfl⟩
set_option maxRecDepth 100000 in
theorem xcwX2_isWord : Cond.code yX2_isWord cX2_isWord 5 (some .boolean) ∈ xTs := List.mem_filter.mpr ⟨List.mem_append_right _ (List.mem_append_right _ (List.mem_append_left _ (List.mem_of_getElem? (i := 177) (l := tables_1_2) rfl))), rfl⟩
set_option maxRecDepth 100000 in
theorem xcwX2_kindOfWord : Cond.code yX2_kindOfWord cX2_kindOfWord 4 (some .int) ∈ xTs := List.mem_filter.mpr ⟨List.mem_append_right _ (List.mem_append_right _ (List.mem_append_left _ (List.mem_of_getElem? (i := 156) (l := tables_1_2) rfl))), rfl⟩
set_option maxRecDepth 100000 in
theorem xcwX2_meaningOf : Cond.code yX2_meaningOf cX2_meaningOf 6 (some .int) ∈ xTs := List.mem_filter.mpr ⟨List.mem_append_right _ (List.mem_append_right _ (List.mem_append_left _ (List.mem_of_getElem? (i := 152) (l := tables_1_2) rfl))), rfl⟩
set_option maxRecDepth 100000 in
theorem xcwX2_miss : Cond.code yX2_miss cX2_miss 1 none ∈ xTs := List.mem_filter.mpr ⟨List.mem_append_right _ (List.mem_append_right _ (List.mem_append_left _ (List.mem_of_getElem? (i := 211) (l := tables_1_2) rfl))), rfl⟩
set_option maxRecDepth 100000 in
theorem xcwX2_readField : Cond.code yX2_readField cX2_readField 3 none ∈ xTs := List.mem_filter.mpr ⟨List.mem_append_right _ (List.mem_append_right _ (List.mem_append_left _ (List.mem_of_getElem? (i := 226) (l := tables_1_2) rfl))), rfl⟩
set_option maxRecDepth 100000 in
theorem xcwX2_readNum : Cond.code yX2_readNum cX2_readNum 3 (some .int) ∈ xTs := List.mem_filter.mpr ⟨List.mem_append_right _ (List.mem_append_right _ (List.mem_append_left _ (List.mem_of_getElem? (i := 236) (l := tables_1_2) rfl))), rfl⟩
set_option maxRecDepth 100000 in
theorem xcwX2_readNumber : Cond.code yX2_readNumber cX2_readNumber 4 (some .int) ∈ xTs := List.mem_filter.mpr ⟨List.mem_append_right _ (List.mem_append_right _ (List.mem_append_right _ (List.mem_append_left _ (List.mem_of_getElem? (i := 4) (l := tables_1_3) rfl)))), rfl⟩
set_option maxRecDepth 100000 in
theorem xcwX2_readNums : Cond.code yX2_readNums cX2_readNums 4 none ∈ xTs := List.mem_filter.mpr ⟨List.mem_append_right _ (List.mem_append_right _ (List.mem_append_right _ (List.mem_append_left _ (List.mem_of_getElem? (i := 8) (l := tables_1_3) rfl)))), rfl⟩
set_option maxRecDepth 100000 in
theorem xcwX2_readPart : Cond.code yX2_readPart cX2_readPart 5 none ∈ xTs := List.mem_filter.mpr ⟨List.mem_append_right _ (List.mem_append_right _ (List.mem_append_left _ (List.mem_of_getElem? (i := 202) (l := tables_1_2) rfl))), rfl⟩
set_option maxRecDepth 100000 in
theorem xcwX2_readSign : Cond.code yX2_readSign cX2_readSign 3 (some .int) ∈ xTs := List.mem_filter.mpr ⟨List.mem_append_right _ (List.mem_append_right _ (List.mem_append_left _ (List.mem_of_getElem? (i := 231) (l := tables_1_2) rfl))), rfl⟩
set_option maxRecDepth 100000 in
theorem xcwX2_readTape : Cond.code yX2_readTape cX2_readTape 3 (some .int) ∈ xTs := List.mem_filter.mpr ⟨List.mem_append_right _ (List.mem_append_right _ (List.mem_append_left _ (List.mem_of_getElem? (i := 54) (l := tables_1_2) rfl))), rfl⟩
set_option maxRecDepth 100000 in
theorem xcwX2_sortOf : Cond.code yX2_sortOf cX2_sortOf 1 (some .int) ∈ xTs := List.mem_filter.mpr ⟨List.mem_append_right _ (List.mem_append_right _ (List.mem_append_left _ (List.mem_of_getElem? (i := 61) (l := tables_1_2) rfl))), rfl⟩
set_option maxRecDepth 100000 in
theorem xcwX2_splitTape : Cond.code yX2_splitTape cX2_splitTape 6 none ∈ xTs := List.mem_filter.mpr ⟨List.mem_append_right _ (List.mem_append_right _ (List.mem_append_left _ (List.mem_of_getElem? (i := 58) (l := tables_1_2) rfl))), rfl⟩
set_option maxRecDepth 100000 in
theorem xcwX3_init : Cond.code yX3_init cX3_init 2 none ∈ xTs := List.mem_filter.mpr ⟨List.mem_append_right _ (List.mem_append_left _ (List.mem_of_getElem? (i := 219) (l := tables_1_1) rfl)), rfl⟩
set_option maxRecDepth 100000 in
theorem xcwX3_isMissing : Cond.code yX3_isMissing cX3_isMissing 2 (some .boolean) ∈ xTs := List.mem_filter.mpr ⟨List.mem_append_right _ (List.mem_append_right _ (List.mem_append_right _ (List.mem_append_right _ (List.mem_append_left _ (List.mem_of_getElem? (i := 75) (l := tables_1_4) rfl))))), rfl⟩
set_option maxRecDepth 100000 in
theorem xcwX3_move : Cond.code yX3_move cX3_move 6 none ∈ xTs := List.mem_filter.mpr ⟨List.mem_append_right _ (List.mem_append_right _ (List.mem_append_right _ (List.mem_append_right _ (List.mem_append_left _ (List.mem_of_getElem? (i := 140) (l := tables_1_4) rfl))))), rfl⟩
set_option maxRecDepth 100000 in
theorem xcwX3_read : Cond.code yX3_read cX3_read 3 (some .long) ∈ xTs := List.mem_filter.mpr ⟨List.mem_append_right _ (List.mem_append_right _ (List.mem_append_right _ (List.mem_append_right _ (List.mem_append_left _ (List.mem_of_getElem? (i := 87) (l := tables_1_4) rfl))))), rfl⟩
set_option maxRecDepth 100000 in
theorem xcwX3_renew : Cond.code yX3_renew cX3_renew 5 none ∈ xTs := List.mem_filter.mpr ⟨List.mem_append_right _ (List.mem_append_right _ (List.mem_append_right _ (List.mem_append_right _ (List.mem_append_left _ (List.mem_of_getElem? (i := 60) (l := tables_1_4) rfl))))), rfl⟩
set_option maxRecDepth 100000 in
theorem xcwX3_spans : Cond.code yX3_spans cX3_spans 4 (some .boolean) ∈ xTs := List.mem_filter.mpr ⟨List.mem_append_right _ (List.mem_append_right _ (List.mem_append_right _ (List.mem_append_right _ (List.mem_append_left _ (List.mem_of_getElem? (i := 128) (l := tables_1_4) rfl))))), rfl⟩
set_option maxRecDepth 100000 in
theorem xcwX3_write : Cond.code yX3_write cX3_write 7 none ∈ xTs := List.mem_filter.mpr ⟨List.mem_append_right _ (List.mem_append_right _ (List.mem_append_right _ (List.mem_append_right _ (List.mem_append_left _ (List.mem_of_getElem? (i := 64) (l := tables_1_4) rfl))))), rfl⟩
set_option maxRecDepth 100000 in
theorem xcwX4_addUp : Cond.code yX4_addUp cX4_addUp 7 (some .int) ∈ xTs := List.mem_filter.mpr ⟨List.mem_append_right _ (List.mem_append_right _ (List.mem_append_right _ (List.mem_append_right _ (List.mem_append_left _ (List.mem_of_getElem? (i := 19) (l := tables_1_4) rfl))))), rfl⟩
set_option maxRecDepth 100000 in
theorem xcwX4_askHead : Cond.code yX4_askHead cX4_askHead 6 (some .int) ∈ xTs := List.mem_filter.mpr ⟨List.mem_append_right _ (List.mem_append_right _ (List.mem_append_right _ (List.mem_append_left _ (List.mem_of_getElem? (i := 173) (l := tables_1_3) rfl)))), rfl⟩
set_option maxRecDepth 100000 in
theorem xcwX4_askPlace : Cond.code yX4_askPlace cX4_askPlace 6 (some .int) ∈ xTs := List.mem_filter.mpr ⟨List.mem_append_right _ (List.mem_append_right _ (List.mem_append_right _ (List.mem_append_left _ (List.mem_of_getElem? (i := 145) (l := tables_1_3) rfl)))), rfl⟩
set_option maxRecDepth 100000 in
theorem xcwX4_begin : Cond.code yX4_begin cX4_begin 3 none ∈ xTs := List.mem_filter.mpr ⟨List.mem_append_right _ (List.mem_append_right _ (List.mem_append_right _ (List.mem_append_left _ (List.mem_of_getElem? (i := 137) (l := tables_1_3) rfl)))), rfl⟩
set_option maxRecDepth 100000 in
theorem xcwX4_beginsRun : Cond.code yX4_beginsRun cX4_beginsRun 1 (some .boolean) ∈ xTs := List.mem_filter.mpr ⟨List.mem_append_right _ (List.mem_append_right _ (List.mem_append_right _ (List.mem_append_left _ (List.mem_of_getElem? (i := 153) (l := tables_1_3) rfl)))), rfl⟩
set_option maxRecDepth 100000 in
theorem xcwX4_behindNames : Cond.code yX4_behindNames cX4_behindNames 5 (some .int) ∈ xTs := List.mem_filter.mpr ⟨List.mem_append_right _ (List.mem_append_right _ (List.mem_append_right _ (List.mem_append_left _ (List.mem_of_getElem? (i := 149) (l := tables_1_3) rfl)))), rfl⟩
set_option maxRecDepth 100000 in
theorem xcwX4_combine : Cond.code yX4_combine cX4_combine 6 (some .int) ∈ xTs := List.mem_filter.mpr ⟨List.mem_append_right _ (List.mem_append_right _ (List.mem_append_right _ (List.mem_append_left _ (List.mem_of_getElem? (i := 185) (l := tables_1_3) rfl)))), rfl⟩
set_option maxRecDepth 100000 in
theorem xcwX4_firstUnlike : Cond.code yX4_firstUnlike cX4_firstUnlike 9 (some .int) ∈ xTs := List.mem_filter.mpr ⟨List.mem_append_right _ (List.mem_append_right _ (List.mem_append_right _ (List.mem_append_right _ (List.mem_append_left _ (List.mem_of_getElem? (i := 37) (l := tables_1_4) rfl))))), rfl⟩
set_option maxRecDepth 100000 in
theorem xcwX4_gather : Cond.code yX4_gather cX4_gather 6 (some .int) ∈ xTs := List.mem_filter.mpr ⟨List.mem_append_right _ (List.mem_append_right _ (List.mem_append_right _ (List.mem_append_right _ (List.mem_append_left _ (List.mem_of_getElem? (i := 56) (l := tables_1_4) rfl))))), rfl⟩
set_option maxRecDepth 100000 in
theorem xcwX4_init : Cond.code yX4_init cX4_init 3 none ∈ xTs := List.mem_filter.mpr ⟨List.mem_append_right _ (List.mem_append_left _ (List.mem_of_getElem? (i := 195) (l := tables_1_1) rfl)), rfl⟩
set_option maxRecDepth 100000 in
theorem xcwX4_isThere : Cond.code yX4_isThere cX4_isThere 3 (some .int) ∈ xTs := List.mem_filter.mpr ⟨List.mem_append_right _ (List.mem_append_right _ (List.mem_append_right _ (List.mem_append_left _ (List.mem_of_getElem? (i := 141) (l := tables_1_3) rfl)))), rfl⟩
set_option maxRecDepth 100000 in
theorem xcwX4_mergePlace : Cond.code yX4_mergePlace cX4_mergePlace 14 (some .int) ∈ xTs := List.mem_filter.mpr ⟨List.mem_append_right _ (List.mem_append_right _ (List.mem_append_right _ (List.mem_append_left _ (List.mem_of_getElem? (i := 200) (l := tables_1_3) rfl)))), rfl⟩
set_option maxRecDepth 100000 in
theorem xcwX4_outcome : Cond.code yX4_outcome cX4_outcome 4 (some .int) ∈ xTs := List.mem_filter.mpr ⟨List.mem_append_right _ (List.mem_append_right _ (List.mem_append_right _ (List.mem_append_left _ (List.mem_of_getElem? (i := 216) (l := tables_1_3) rfl)))), rfl⟩
set_option maxRecDepth 100000 in
theorem xcwX4_passes : Cond.code yX4_passes cX4_passes 5 (some .int) ∈ xTs := List.mem_filter.mpr ⟨List.mem_append_right _ (List.mem_append_right _ (List.mem_append_right _ (List.mem_append_left _ (List.mem_of_getElem? (i := 192) (l := tables_1_3) rfl)))), rfl⟩
set_option maxRecDepth 100000 in
theorem xcwX4_passesOwnHeads : Cond.code yX4_passesOwnHeads cX4_passesOwnHeads 7 (some .int) ∈ xTs := List.mem_filter.mpr ⟨List.mem_append_right _ (List.mem_append_right _ (List.mem_append_right _ (List.mem_append_left _ (List.mem_of_getElem? (i := 196) (l := tables_1_3) rfl)))), rfl⟩
set_option maxRecDepth 100000 in
theorem xcwX4_placeOf : Cond.code yX4_placeOf cX4_placeOf 7 (some .int) ∈ xTs := List.mem_filter.mpr ⟨List.mem_append_right _ (List.mem_append_right _ (List.mem_append_right _ (List.mem_append_right _ (List.mem_append_left _ (List.mem_of_getElem? (i := 29) (l := tables_1_4) rfl))))), rfl⟩
set_option maxRecDepth 100000 in
theorem xcwX4_rising : Cond.code yX4_rising cX4_rising 6 (some .int) ∈ xTs := List.mem_filter.mpr ⟨List.mem_append_right _ (List.mem_append_right _ (List.mem_append_right _ (List.mem_append_right _ (List.mem_append_left _ (List.mem_of_getElem? (i := 45) (l := tables_1_4) rfl))))), rfl⟩
set_option maxRecDepth 100000 in
theorem xcwX4_seekPlace : Cond.code yX4_seekPlace cX4_seekPlace 6 (some .int) ∈ xTs := List.mem_filter.mpr ⟨List.mem_append_right _ (List.mem_append_right _ (List.mem_append_right _ (List.mem_append_left _ (List.mem_of_getElem? (i := 165) (l := tables_1_3) rfl)))), rfl⟩
set_option maxRecDepth 100000 in
theorem xcwX4_seeks : Cond.code yX4_seeks cX4_seeks 2 (some .boolean) ∈ xTs := List.mem_filter.mpr ⟨List.mem_append_right _ (List.mem_append_right _ (List.mem_append_right _ (List.mem_append_left _ (List.mem_of_getElem? (i := 161) (l := tables_1_3) rfl)))), rfl⟩
set_option maxRecDepth 100000 in
theorem xcwX4_tellHead : Cond.code yX4_tellHead cX4_tellHead 10 (some .int) ∈ xTs := List.mem_filter.mpr ⟨List.mem_append_right _ (List.mem_append_right _ (List.mem_append_right _ (List.mem_append_left _ (List.mem_of_getElem? (i := 177) (l := tables_1_3) rfl)))), rfl⟩
set_option maxRecDepth 100000 in
theorem xcwX4_tellNumber : Cond.code yX4_tellNumber cX4_tellNumber 3 (some .int) ∈ xTs := List.mem_filter.mpr ⟨List.mem_append_right _ (List.mem_append_right _ (List.mem_append_right _ (List.mem_append_left _ (List.mem_of_getElem? (i := 181) (l := tables_1_3) rfl)))), rfl⟩
set_option maxRecDepth 100000 in
theorem xcwX4_tellPlace : Cond.code yX4_tellPlace cX4_tellPlace 6 (some .int) ∈ xTs := List.mem_filter.mpr ⟨List.mem_append_right _ (List.mem_append_right _ (List.mem_append_right _ (List.mem_append_left _ (List.mem_of_getElem? (i := 204) (l := tables_1_3) rfl)))), rfl⟩
set_option maxRecDepth 100000 in
theorem xcwX5_allParts : Cond.code yX5_allParts cX5_allParts 3 (some .int) ∈ xTs := List.mem_filter.mpr ⟨List.mem_append_right _ (List.mem_append_right _ (List.mem_append_right _ (List.mem_append_right _ (List.mem_append_left _ (List.mem_of_getElem? (i := 116) (l := tables_1_4) rfl))))), rfl⟩
set_option maxRecDepth 100000 in
theorem xcwX5_clearPart : Cond.code yX5_clearPart cX5_clearPart 3 none ∈ xTs := List.mem_filter.mpr ⟨List.mem_append_right _ (List.mem_append_right _ (List.mem_append_left _ (List.mem_of_getElem? (i := 207) (l := tables_1_2) rfl))), rfl⟩
set_option maxRecDepth 100000 in
theorem xcwX5_close : Cond.code yX5_close cX5_close 8 none ∈ xTs := List.mem_filter.mpr ⟨List.mem_append_right _ (List.mem_append_right _ (List.mem_append_right _ (List.mem_append_left _ (List.mem_of_getElem? (i := 15) (l := tables_1_3) rfl)))), rfl⟩
set_option maxRecDepth 100000 in
theorem xcwX5_filledStreams : Cond.code yX5_filledStreams cX5_filledStreams 3 (some .int) ∈ xTs := List.mem_filter.mpr ⟨List.mem_append_right _ (List.mem_append_right _ (List.mem_append_right _ (List.mem_append_right _ (List.mem_append_left _ (List.mem_of_getElem? (i := 104) (l := tables_1_4) rfl))))), rfl⟩
set_option maxRecDepth 100000 in
theorem xcwX5_firstRow : Cond.code yX5_firstRow cX5_firstRow 2 (some .int) ∈ xTs := List.mem_filter.mpr ⟨List.mem_append_right _ (List.mem_append_right _ (List.mem_append_right _ (List.mem_append_left _ (List.mem_of_getElem? (i := 169) (l := tables_1_3) rfl)))), rfl⟩
set_option maxRecDepth 100000 in
theorem xcwX5_init : Cond.code yX5_init cX5_init 3 none ∈ xTs := List.mem_filter.mpr ⟨List.mem_append_right _ (List.mem_append_left _ (List.mem_of_getElem? (i := 35) (l := tables_1_1) rfl)), rfl⟩
set_option maxRecDepth 100000 in
theorem xcwX5_secondRow : Cond.code yX5_secondRow cX5_secondRow 2 (some .int) ∈ xTs := List.mem_filter.mpr ⟨List.mem_append_right _ (List.mem_append_right _ (List.mem_append_right _ (List.mem_append_left _ (List.mem_of_getElem? (i := 189) (l := tables_1_3) rfl)))), rfl⟩
set_option maxRecDepth 100000 in
theorem xcwX5_takeAll : Cond.code yX5_takeAll cX5_takeAll 3 none ∈ xTs := List.mem_filter.mpr ⟨List.mem_append_right _ (List.mem_append_right _ (List.mem_append_right _ (List.mem_append_right _ (List.mem_append_left _ (List.mem_of_getElem? (i := 99) (l := tables_1_4) rfl))))), rfl⟩
set_option maxRecDepth 100000 in
theorem xcwX5_takeParts : Cond.code yX5_takeParts cX5_takeParts 5 none ∈ xTs := List.mem_filter.mpr ⟨List.mem_append_right _ (List.mem_append_right _ (List.mem_append_right _ (List.mem_append_left _ (List.mem_of_getElem? (i := 24) (l := tables_1_3) rfl)))), rfl⟩
set_option maxRecDepth 100000 in
theorem xcwX5_takeStream : Cond.code yX5_takeStream cX5_takeStream 4 none ∈ xTs := List.mem_filter.mpr ⟨List.mem_append_right _ (List.mem_append_right _ (List.mem_append_right _ (List.mem_append_left _ (List.mem_of_getElem? (i := 20) (l := tables_1_3) rfl)))), rfl⟩
set_option maxRecDepth 100000 in
theorem xcwX6_allHeads : Cond.code yX6_allHeads cX6_allHeads 3 (some .int) ∈ xTs := List.mem_filter.mpr ⟨List.mem_append_right _ (List.mem_append_right _ (List.mem_append_right _ (List.mem_append_right _ (List.mem_append_left _ (List.mem_of_getElem? (i := 11) (l := tables_1_4) rfl))))), rfl⟩
set_option maxRecDepth 100000 in
theorem xcwX6_allPlaces : Cond.code yX6_allPlaces cX6_allPlaces 3 (some .int) ∈ xTs := List.mem_filter.mpr ⟨List.mem_append_right _ (List.mem_append_right _ (List.mem_append_right _ (List.mem_append_right _ (List.mem_append_left _ (List.mem_of_getElem? (i := 7) (l := tables_1_4) rfl))))), rfl⟩
set_option maxRecDepth 100000 in
theorem xcwX6_init : Cond.code yX6_init cX6_init 3 none ∈ xTs := List.mem_filter.mpr ⟨List.mem_append_right _ (List.mem_append_left _ (List.mem_of_getElem? (i := 138) (l := tables_1_1) rfl)), rfl⟩
set_option maxRecDepth 100000 in
theorem xcwX6_meet : Cond.code yX6_meet cX6_meet 2 none ∈ xTs := List.mem_filter.mpr ⟨List.mem_append_right _ (List.mem_append_right _ (List.mem_append_right _ (List.mem_append_left _ (List.mem_of_getElem? (i := 157) (l := tables_1_3) rfl)))), rfl⟩
set_option maxRecDepth 100000 in
theorem xcwX6_takeAll : Cond.code yX6_takeAll cX6_takeAll 3 none ∈ xTs := List.mem_filter.mpr ⟨List.mem_append_right _ (List.mem_append_right _ (List.mem_append_right _ (List.mem_append_left _ (List.mem_of_getElem? (i := 228) (l := tables_1_3) rfl)))), rfl⟩
set_option maxRecDepth 100000 in
theorem xcwX6_takePart : Cond.code yX6_takePart cX6_takePart 5 none ∈ xTs := List.mem_filter.mpr ⟨List.mem_append_right _ (List.mem_append_right _ (List.mem_append_right _ (List.mem_append_left _ (List.mem_of_getElem? (i := 233) (l := tables_1_3) rfl)))), rfl⟩
set_option maxRecDepth 100000 in
theorem xcwX6_untell : Cond.code yX6_untell cX6_untell 2 none ∈ xTs := List.mem_filter.mpr ⟨List.mem_append_right _ (List.mem_append_right _ (List.mem_append_right _ (List.mem_append_left _ (List.mem_of_getElem? (i := 31) (l := tables_1_3) rfl)))), rfl⟩
set_option maxRecDepth 100000 in
theorem xcwX6_untellPart : Cond.code yX6_untellPart cX6_untellPart 4 none ∈ xTs := List.mem_filter.mpr ⟨List.mem_append_right _ (List.mem_append_right _ (List.mem_append_right _ (List.mem_append_left _ (List.mem_of_getElem? (i := 35) (l := tables_1_3) rfl)))), rfl⟩
set_option maxRecDepth 100000 in
theorem xcwX7_back : Cond.code yX7_back cX7_back 1 (some .int) ∈ xTs := List.mem_filter.mpr ⟨List.mem_append_right _ (List.mem_append_right _ (List.mem_append_right _ (List.mem_append_right _ (List.mem_append_left _ (List.mem_of_getElem? (i := 108) (l := tables_1_4) rfl))))), rfl⟩
set_option maxRecDepth 100000 in
theorem xcwX7_copy : Cond.code yX7_copy cX7_copy 6 (some .int) ∈ xTs := List.mem_filter.mpr ⟨List.mem_append_right _ (List.mem_append_right _ (List.mem_append_right _ (List.mem_append_right _ (List.mem_append_left _ (List.mem_of_getElem? (i := 136) (l := tables_1_4) rfl))))), rfl⟩
set_option maxRecDepth 100000 in
theorem xcwX7_count : Cond.code yX7_count cX7_count 2 (some .int) ∈ xTs := List.mem_filter.mpr ⟨List.mem_append_right _ (List.mem_append_right _ (List.mem_append_right _ (List.mem_append_right _ (List.mem_append_left _ (List.mem_of_getElem? (i := 112) (l := tables_1_4) rfl))))), rfl⟩
set_option maxRecDepth 100000 in
theorem xcwX7_counted : Cond.code yX7_counted cX7_counted 2 (some .int) ∈ xTs := List.mem_filter.mpr ⟨List.mem_append_right _ (List.mem_append_right _ (List.mem_append_right _ (List.mem_append_left _ (List.mem_of_getElem? (i := 208) (l := tables_1_3) rfl)))), rfl⟩
set_option maxRecDepth 100000 in
theorem xcwX7_differ : Cond.code yX7_differ cX7_differ 4 (some .int) ∈ xTs := List.mem_filter.mpr ⟨List.mem_append_right _ (List.mem_append_right _ (List.mem_append_right _ (List.mem_append_right _ (List.mem_append_left _ (List.mem_of_getElem? (i := 33) (l := tables_1_4) rfl))))), rfl⟩
set_option maxRecDepth 100000 in
theorem xcwX7_empty : Cond.code yX7_empty cX7_empty 3 (some .int) ∈ xTs := List.mem_filter.mpr ⟨List.mem_append_right _ (List.mem_append_right _ (List.mem_append_right _ (List.mem_append_left _ (List.mem_of_getElem? (i := 39) (l := tables_1_3) rfl)))), rfl⟩
set_option maxRecDepth 100000 in
theorem xcwX7_entry : Cond.code yX7_entry cX7_entry 5 (some .long) ∈ xTs := List.mem_filter.mpr ⟨List.mem_append_right _ (List.mem_append_right _ (List.mem_append_right _ (List.mem_append_left _ (List.mem_of_getElem? (i := 63) (l := tables_1_3) rfl)))), rfl⟩
set_option maxRecDepth 100000 in
theorem xcwX7_feed : Cond.code yX7_feed cX7_feed 2 (some .int) ∈ xTs := List.mem_filter.mpr ⟨List.mem_append_right _ (List.mem_append_right _ (List.mem_append_left _ (List.mem_of_getElem? (i := 39) (l := tables_1_2) rfl))), rfl⟩
set_option maxRecDepth 100000 in
theorem xcwX7_film : Cond.code yX7_film cX7_film 7 (some .int) ∈ xTs := List.mem_filter.mpr ⟨List.mem_append_right _ (List.mem_append_right _ (List.mem_append_right _ (List.mem_append_right _ (List.mem_append_left _ (List.mem_of_getElem? (i := 49) (l := tables_1_4) rfl))))), rfl⟩
set_option maxRecDepth 100000 in
theorem xcwX7_find : Cond.code yX7_find cX7_find 6 (some .int) ∈ xTs := List.mem_filter.mpr ⟨List.mem_append_right _ (List.mem_append_right _ (List.mem_append_right _ (List.mem_append_right _ (List.mem_append_left _ (List.mem_of_getElem? (i := 25) (l := tables_1_4) rfl))))), rfl⟩
set_option maxRecDepth 100000 in
theorem xcwX7_forget : Cond.code yX7_forget cX7_forget 2 (some .int) ∈ xTs := List.mem_filter.mpr ⟨List.mem_append_right _ (List.mem_append_right _ (List.mem_append_right _ (List.mem_append_right _ (List.mem_append_left _ (List.mem_of_getElem? (i := 3) (l := tables_1_4) rfl))))), rfl⟩
set_option maxRecDepth 100000 in
theorem xcwX7_hasPart : Cond.code yX7_hasPart cX7_hasPart 3 (some .boolean) ∈ xTs := List.mem_filter.mpr ⟨List.mem_append_right _ (List.mem_append_right _ (List.mem_append_right _ (List.mem_append_left _ (List.mem_of_getElem? (i := 51) (l := tables_1_3) rfl)))), rfl⟩
set_option maxRecDepth 100000 in
theorem xcwX7_head : Cond.code yX7_head cX7_head 3 (some .long) ∈ xTs := List.mem_filter.mpr ⟨List.mem_append_right _ (List.mem_append_right _ (List.mem_append_right _ (List.mem_append_left _ (List.mem_of_getElem? (i := 220) (l := tables_1_3) rfl)))), rfl⟩
set_option maxRecDepth 100000 in
theorem xcwX7_image : Cond.code yX7_image cX7_image 1 (some .int) ∈ xTs := List.mem_filter.mpr ⟨List.mem_append_right _ (List.mem_append_right _ (List.mem_append_right _ (List.mem_append_right _ (List.mem_append_left _ (List.mem_of_getElem? (i := 95) (l := tables_1_4) rfl))))), rfl⟩
set_option maxRecDepth 100000 in
theorem xcwX7_init : Cond.code yX7_init cX7_init 1 none ∈ xTs := List.mem_filter.mpr ⟨List.mem_append_right _ (List.mem_append_left _ (List.mem_of_getElem? (i := 21) (l := tables_1_1) rfl)), rfl⟩
set_option maxRecDepth 100000 in
theorem xcwX7_is : Cond.code yX7_is cX7_is 4 (some .int) ∈ xTs := List.mem_filter.mpr ⟨List.mem_append_right _ (List.mem_append_right _ (List.mem_append_right _ (List.mem_append_left _ (List.mem_of_getElem? (i := 212) (l := tables_1_3) rfl)))), rfl⟩
set_option maxRecDepth 100000 in
theorem xcwX7_isEmpty : Cond.code yX7_isEmpty cX7_isEmpty 2 (some .boolean) ∈ xTs := List.mem_filter.mpr ⟨List.mem_append_right _ (List.mem_append_right _ (List.mem_append_right _ (List.mem_append_left _ (List.mem_of_getElem? (i := 47) (l := tables_1_3) rfl)))), rfl⟩
set_option maxRecDepth 100000 in
theorem xcwX7_isQuestion : Cond.code yX7_isQuestion cX7_isQuestion 1 (some .boolean) ∈ xTs := List.mem_filter.mpr ⟨List.mem_append_right _ (List.mem_append_right _ (List.mem_append_right _ (List.mem_append_right _ (List.mem_append_left _ (List.mem_of_getElem? (i := 71) (l := tables_1_4) rfl))))), rfl⟩
set_option maxRecDepth 100000 in
theorem xcwX7_isSheet : Cond.code yX7_isSheet cX7_isSheet 1 (some .boolean) ∈ xTs := List.mem_filter.mpr ⟨List.mem_append_right _ (List.mem_append_right _ (List.mem_append_right _ (List.mem_append_right _ (List.mem_append_left _ (List.mem_of_getElem? (i := 52) (l := tables_1_4) rfl))))), rfl⟩
set_option maxRecDepth 100000 in
theorem xcwX7_isStream : Cond.code yX7_isStream cX7_isStream 1 (some .boolean) ∈ xTs := List.mem_filter.mpr ⟨List.mem_append_right _ (List.mem_append_right _ (List.mem_append_left _ (List.mem_of_getElem? (i := 50) (l := tables_1_2) rfl))), rfl⟩
set_option maxRecDepth 100000 in
theorem xcwX7_isToldBy : Cond.code yX7_isToldBy cX7_isToldBy 4 (some .boolean) ∈ xTs := List.mem_filter.mpr ⟨List.mem_append_right _ (List.mem_append_right _ (List.mem_append_right _ (List.mem_append_right _ (List.mem_append_left _ (List.mem_of_getElem? (i := 83) (l := tables_1_4) rfl))))), rfl⟩
set_option maxRecDepth 100000 in
theorem xcwX7_item : Cond.code yX7_item cX7_item 3 (some .long) ∈ xTs := List.mem_filter.mpr ⟨List.mem_append_right _ (List.mem_append_right _ (List.mem_append_right _ (List.mem_append_right _ (List.mem_append_left _ (List.mem_of_getElem? (i := 132) (l := tables_1_4) rfl))))), rfl⟩
set_option maxRecDepth 100000 in
theorem xcwX7_lay : Cond.code yX7_lay cX7_lay 8 (some .int) ∈ xTs := List.mem_filter.mpr ⟨List.mem_append_right _ (List.mem_append_right _ (List.mem_append_right _ (List.mem_append_right _ (List.mem_append_left _ (List.mem_of_getElem? (i := 145) (l := tables_1_4) rfl))))), rfl⟩
set_option maxRecDepth 100000 in
theorem xcwX7_limit : Cond.code yX7_limit cX7_limit 3 (some .int) ∈ xTs := List.mem_filter.mpr ⟨List.mem_append_right _ (List.mem_append_right _ (List.mem_append_right _ (List.mem_append_left _ (List.mem_of_getElem? (i := 239) (l := tables_1_3) rfl)))), rfl⟩
set_option maxRecDepth 100000 in
theorem xcwX7_need : Cond.code yX7_need cX7_need 4 (some .int) ∈ xTs := List.mem_filter.mpr ⟨List.mem_append_right _ (List.mem_append_right _ (List.mem_append_right _ (List.mem_append_left _ (List.mem_of_getElem? (i := 224) (l := tables_1_3) rfl)))), rfl⟩
set_option maxRecDepth 100000 in
theorem xcwX7_number : Cond.code yX7_number cX7_number 4 (some .long) ∈ xTs := List.mem_filter.mpr ⟨List.mem_append_right _ (List.mem_append_right _ (List.mem_append_right _ (List.mem_append_left _ (List.mem_of_getElem? (i := 55) (l := tables_1_3) rfl)))), rfl⟩
set_option maxRecDepth 100000 in
theorem xcwX7_part : Cond.code yX7_part cX7_part 5 (some .int) ∈ xTs := List.mem_filter.mpr ⟨List.mem_append_right _ (List.mem_append_right _ (List.mem_append_right _ (List.mem_append_left _ (List.mem_of_getElem? (i := 43) (l := tables_1_3) rfl)))), rfl⟩
set_option maxRecDepth 100000 in
theorem xcwX7_print : Cond.code yX7_print cX7_print 3 (some .int) ∈ xTs := List.mem_filter.mpr ⟨List.mem_append_right _ (List.mem_append_right _ (List.mem_append_right _ (List.mem_append_left _ (List.mem_of_getElem? (i := 79) (l := tables_1_3) rfl)))), rfl⟩
set_option maxRecDepth 100000 in
theorem xcwX7_put : Cond.code yX7_put cX7_put 5 (some .int) ∈ xTs := List.mem_filter.mpr ⟨List.mem_append_right _ (List.mem_append_right _ (List.mem_append_right _ (List.mem_append_right _ (List.mem_append_left _ (List.mem_of_getElem? (i := 124) (l := tables_1_4) rfl))))), rfl⟩
set_option maxRecDepth 100000 in
theorem xcwX7_refusedPlace : Cond.code yX7_refusedPlace cX7_refusedPlace 3 (some .int) ∈ xTs := List.mem_filter.mpr ⟨List.mem_append_right _ (List.mem_append_right _ (List.mem_append_right _ (List.mem_append_left _ (List.mem_of_getElem? (i := 129) (l := tables_1_3) rfl)))), rfl⟩
set_option maxRecDepth 100000 in
theorem xcwX7_refusedRow : Cond.code yX7_refusedRow cX7_refusedRow 4 (some .int) ∈ xTs := List.mem_filter.mpr ⟨List.mem_append_right _ (List.mem_append_right _ (List.mem_append_right _ (List.mem_append_left _ (List.mem_of_getElem? (i := 133) (l := tables_1_3) rfl)))), rfl⟩
set_option maxRecDepth 100000 in
theorem xcwX7_rises : Cond.code yX7_rises cX7_rises 3 (some .int) ∈ xTs := List.mem_filter.mpr ⟨List.mem_append_right _ (List.mem_append_right _ (List.mem_append_right _ (List.mem_append_right _ (List.mem_append_left _ (List.mem_of_getElem? (i := 41) (l := tables_1_4) rfl))))), rfl⟩
set_option maxRecDepth 100000 in
theorem xcwX7_sheet : Cond.code yX7_sheet cX7_sheet 4 (some .int) ∈ xTs := List.mem_filter.mpr ⟨List.mem_append_right _ (List.mem_append_right _ (List.mem_append_right _ (List.mem_append_right _ (List.mem_append_left _ (List.mem_of_getElem? (i := 120) (l := tables_1_4) rfl))))), rfl⟩
set_option maxRecDepth 100000 in
theorem xcwX7_sum : Cond.code yX7_sum cX7_sum 4 (some .long) ∈ xTs := List.mem_filter.mpr ⟨List.mem_append_right _ (List.mem_append_right _ (List.mem_append_right _ (List.mem_append_right _ (List.mem_append_left _ (List.mem_of_getElem? (i := 15) (l := tables_1_4) rfl))))), rfl⟩
set_option maxRecDepth 100000 in
theorem xcwX7_taken : Cond.code yX7_taken cX7_taken 5 (some .int) ∈ xTs := List.mem_filter.mpr ⟨List.mem_append_right _ (List.mem_append_right _ (List.mem_append_right _ (List.mem_append_left _ (List.mem_of_getElem? (i := 74) (l := tables_1_3) rfl)))), rfl⟩
set_option maxRecDepth 100000 in
theorem xcwX7_tellingNumbers : Cond.code yX7_tellingNumbers cX7_tellingNumbers 10 (some .int) ∈ xTs := List.mem_filter.mpr ⟨List.mem_append_right _ (List.mem_append_right _ (List.mem_append_right _ (List.mem_append_right _ (List.mem_append_left _ (List.mem_of_getElem? (i := 91) (l := tables_1_4) rfl))))), rfl⟩
set_option maxRecDepth 100000 in
theorem xcwX7_tellingStreams : Cond.code yX7_tellingStreams cX7_tellingStreams 4 (some .int) ∈ xTs := List.mem_filter.mpr ⟨List.mem_append_right _ (List.mem_append_right _ (List.mem_append_right _ (List.mem_append_right _ (List.mem_append_left _ (List.mem_of_getElem? (i := 79) (l := tables_1_4) rfl))))), rfl⟩
set_option maxRecDepth 100000 in
theorem xcwX7_tells : Cond.code yX7_tells cX7_tells 5 (some .int) ∈ xTs := List.mem_filter.mpr ⟨List.mem_append_right _ (List.mem_append_right _ (List.mem_append_right _ (List.mem_append_right _ (List.mem_append_left _ (List.mem_of_getElem? (i := 68) (l := tables_1_4) rfl))))), rfl⟩
set_option maxRecDepth 100000 in
theorem xcwX7_text : Cond.code yX7_text cX7_text 3 (some .int) ∈ xTs := List.mem_filter.mpr ⟨List.mem_append_right _ (List.mem_append_right _ (List.mem_append_left _ (List.mem_of_getElem? (i := 47) (l := tables_1_2) rfl))), rfl⟩
set_option maxRecDepth 100000 in
theorem xcwX7_there : Cond.code yX7_there cX7_there 4 (some .int) ∈ xTs := List.mem_filter.mpr ⟨List.mem_append_right _ (List.mem_append_right _ (List.mem_append_right _ (List.mem_append_left _ (List.mem_of_getElem? (i := 125) (l := tables_1_3) rfl)))), rfl⟩
set_option maxRecDepth 100000 in
theorem xcwX7_twist : Cond.code yX7_twist cX7_twist 6 (some .int) ∈ xTs := List.mem_filter.mpr ⟨List.mem_append_right _ (List.mem_append_right _ (List.mem_append_right _ (List.mem_append_left _ (List.mem_of_getElem? (i := 67) (l := tables_1_3) rfl)))), rfl⟩
set_option maxRecDepth 100000 in
theorem xcwX8_back : Cond.code yX8_back cX8_back 2 (some .int) ∈ xTs := List.mem_filter.mpr ⟨List.mem_append_right _ (List.mem_append_right _ (List.mem_append_right _ (List.mem_append_right _ (List.mem_append_right _ (List.mem_append_right _ (List.mem_of_getElem? (i := 179) (l := tables_1_6) rfl)))))), rfl⟩
set_option maxRecDepth 100000 in
theorem xcwX8_begins : Cond.code yX8_begins cX8_begins 2 none ∈ xTs := List.mem_filter.mpr ⟨List.mem_append_right _ (List.mem_append_right _ (List.mem_append_right _ (List.mem_append_right _ (List.mem_append_right _ (List.mem_append_right _ (List.mem_of_getElem? (i := 39) (l := tables_1_6) rfl)))))), rfl⟩
set_option maxRecDepth 100000 in
theorem xcwX8_byteAt : Cond.code yX8_byteAt cX8_byteAt 2 (some .int) ∈ xTs := List.mem_filter.mpr ⟨List.mem_append_right _ (List.mem_append_right _ (List.mem_append_right _ (List.mem_append_right _ (List.mem_append_right _ (List.mem_append_left _ (List.mem_of_getElem? (i := 144) (l := tables_1_5) rfl)))))), rfl⟩
set_option maxRecDepth 100000 in
theorem xcwX8_copy : Cond.code yX8_copy cX8_copy 9 (some .int) ∈ xTs := List.mem_filter.mpr ⟨List.mem_append_right _ (List.mem_append_right _ (List.mem_append_right _ (List.mem_append_right _ (List.mem_append_right _ (List.mem_append_right _ (List.mem_of_getElem? (i := 197) (l := tables_1_6) rfl)))))), rfl⟩
set_option maxRecDepth 100000 in
theorem xcwX8_count : Cond.code yX8_count cX8_count 4 (some .int) ∈ xTs := List.mem_filter.mpr ⟨List.mem_append_right _ (List.mem_append_right _ (List.mem_append_right _ (List.mem_append_right _ (List.mem_append_right _ (List.mem_append_right _ (List.mem_of_getElem? (i := 183) (l := tables_1_6) rfl)))))), rfl⟩
set_option maxRecDepth 100000 in
theorem xcwX8_cuts : Cond.code yX8_cuts cX8_cuts 8 (some .int) ∈ xTs := List.mem_filter.mpr ⟨List.mem_append_right _ (List.mem_append_right _ (List.mem_append_right _ (List.mem_append_right _ (List.mem_append_right _ (List.mem_append_right _ (List.mem_of_getElem? (i := 67) (l := tables_1_6) rfl)))))), rfl⟩
set_option maxRecDepth 100000 in
theorem xcwX8_differ : Cond.code yX8_differ cX8_differ 11 (some .int) ∈ xTs := List.mem_filter.mpr ⟨List.mem_append_right _ (List.mem_append_right _ (List.mem_append_right _ (List.mem_append_right _ (List.mem_append_right _ (List.mem_append_right _ (List.mem_of_getElem? (i := 130) (l := tables_1_6) rfl)))))), rfl⟩
set_option maxRecDepth 100000 in
theorem xcwX8_digits : Cond.code yX8_digits cX8_digits 10 none ∈ xTs := List.mem_filter.mpr ⟨List.mem_append_right _ (List.mem_append_right _ (List.mem_append_right _ (List.mem_append_right _ (List.mem_append_right _ (List.mem_append_right _ (List.mem_of_getElem? (i := 29) (l := tables_1_6) rfl)))))), rfl⟩
set_option maxRecDepth 100000 in
theorem xcwX8_empty : Cond.code yX8_empty cX8_empty 3 (some .int) ∈ xTs := List.mem_filter.mpr ⟨List.mem_append_right _ (List.mem_append_right _ (List.mem_append_right _ (List.mem_append_right _ (List.mem_append_right _ (List.mem_append_left _ (List.mem_of_getElem? (i := 200) (l := tables_1_5) rfl)))))), rfl⟩
set_option maxRecDepth 100000 in
theorem xcwX8_entry : Cond.code yX8_entry cX8_entry 4 (some .long) ∈ xTs := List.mem_filter.mpr ⟨List.mem_append_right _ (List.mem_append_right _ (List.mem_append_right _ (List.mem_append_right _ (List.mem_append_right _ (List.mem_append_left _ (List.mem_of_getElem? (i := 226) (l := tables_1_5) rfl)))))), rfl⟩
set_option maxRecDepth 100000 in
theorem xcwX8_fail : Cond.code yX8_fail cX8_fail 1 none ∈ xTs := List.mem_filter.mpr ⟨List.mem_append_right _ (List.mem_append_right _ (List.mem_append_right _ (List.mem_append_right _ (List.mem_append_right _ (List.mem_append_left _ (List.mem_of_getElem? (i := 172) (l := tables_1_5) rfl)))))), rfl⟩
set_option maxRecDepth 100000 in
theorem xcwX8_feed : Cond.code yX8_feed cX8_feed 2 (some .int) ∈ xTs := List.mem_filter.mpr ⟨List.mem_append_right _ (List.mem_append_right _ (List.mem_append_right _ (List.mem_append_right _ (List.mem_append_right _ (List.mem_append_left _ (List.mem_of_getElem? (i := 124) (l := tables_1_5) rfl)))))), rfl⟩
set_option maxRecDepth 100000 in
theorem xcwX8_film : Cond.code yX8_film cX8_film 7 (some .int) ∈ xTs := List.mem_filter.mpr ⟨List.mem_append_right _ (List.mem_append_right _ (List.mem_append_right _ (List.mem_append_right _ (List.mem_append_right _ (List.mem_append_right _ (List.mem_of_getElem? (i := 150) (l := tables_1_6) rfl)))))), rfl⟩
set_option maxRecDepth 100000 in
theorem xcwX8_find : Cond.code yX8_find cX8_find 8 (some .int) ∈ xTs := List.mem_filter.mpr ⟨List.mem_append_right _ (List.mem_append_right _ (List.mem_append_right _ (List.mem_append_right _ (List.mem_append_right _ (List.mem_append_right _ (List.mem_of_getElem? (i := 126) (l := tables_1_6) rfl)))))), rfl⟩
set_option maxRecDepth 100000 in
theorem xcwX8_followed : Cond.code yX8_followed cX8_followed 5 (some .int) ∈ xTs := List.mem_filter.mpr ⟨List.mem_append_right _ (List.mem_append_right _ (List.mem_append_right _ (List.mem_append_right _ (List.mem_append_right _ (List.mem_append_right _ (List.mem_of_getElem? (i := 47) (l := tables_1_6) rfl)))))), rfl⟩
set_option maxRecDepth 100000 in
theorem xcwX8_forget : Cond.code yX8_forget cX8_forget 2 (some .int) ∈ xTs := List.mem_filter.mpr ⟨List.mem_append_right _ (List.mem_append_right _ (List.mem_append_right _ (List.mem_append_right _ (List.mem_append_right _ (List.mem_append_right _ (List.mem_of_getElem? (i := 109) (l := tables_1_6) rfl)))))), rfl⟩
set_option maxRecDepth 100000 in
theorem xcwX8_full : Cond.code yX8_full cX8_full 3 (some .int) ∈ xTs := List.mem_filter.mpr ⟨List.mem_append_right _ (List.mem_append_right _ (List.mem_append_right _ (List.mem_append_right _ (List.mem_append_right _ (List.mem_append_right _ (List.mem_of_getElem? (i := 175) (l := tables_1_6) rfl)))))), rfl⟩
set_option maxRecDepth 100000 in
theorem xcwX8_gap : Cond.code yX8_gap cX8_gap 1 none ∈ xTs := List.mem_filter.mpr ⟨List.mem_append_right _ (List.mem_append_right _ (List.mem_append_right _ (List.mem_append_right _ (List.mem_append_right _ (List.mem_append_right _ (List.mem_of_getElem? (i := 21) (l := tables_1_6) rfl)))))), rfl⟩
set_option maxRecDepth 100000 in
theorem xcwX8_groupOf : Cond.code yX8_groupOf cX8_groupOf 1 (some .int) ∈ xTs := List.mem_filter.mpr ⟨List.mem_append_right _ (List.mem_append_right _ (List.mem_append_right _ (List.mem_append_right _ (List.mem_append_right _ (List.mem_append_right _ (List.mem_of_getElem? (i := 1) (l := tables_1_6) rfl)))))), rfl⟩
set_option maxRecDepth 100000 in
theorem xcwX8_head : Cond.code yX8_head cX8_head 3 (some .long) ∈ xTs := List.mem_filter.mpr ⟨List.mem_append_right _ (List.mem_append_right _ (List.mem_append_right _ (List.mem_append_right _ (List.mem_append_right _ (List.mem_append_right _ (List.mem_of_getElem? (i := 99) (l := tables_1_6) rfl)))))), rfl⟩
set_option maxRecDepth 100000 in
theorem xcwX8_headAsked : Cond.code yX8_headAsked cX8_headAsked 6 (some .int) ∈ xTs := List.mem_filter.mpr ⟨List.mem_append_right _ (List.mem_append_right _ (List.mem_append_right _ (List.mem_append_right _ (List.mem_append_right _ (List.mem_append_right _ (List.mem_of_getElem? (i := 59) (l := tables_1_6) rfl)))))), rfl⟩
set_option maxRecDepth 100000 in
theorem xcwX8_image : Cond.code yX8_image cX8_image 2 (some .int) ∈ xTs := List.mem_filter.mpr ⟨List.mem_append_right _ (List.mem_append_right _ (List.mem_append_right _ (List.mem_append_right _ (List.mem_append_right _ (List.mem_append_right _ (List.mem_of_getElem? (i := 171) (l := tables_1_6) rfl)))))), rfl⟩
set_option maxRecDepth 100000 in
theorem xcwX8_in : Cond.code yX8_in cX8_in 6 (some .boolean) ∈ xTs := List.mem_filter.mpr ⟨List.mem_append_right _ (List.mem_append_right _ (List.mem_append_right _ (List.mem_append_right _ (List.mem_append_right _ (List.mem_append_left _ (List.mem_of_getElem? (i := 128) (l := tables_1_5) rfl)))))), rfl⟩
set_option maxRecDepth 100000 in
theorem xcwX8_init : Cond.code yX8_init cX8_init 1 none ∈ xTs := List.mem_filter.mpr ⟨List.mem_append_right _ (List.mem_append_right _ (List.mem_append_right _ (List.mem_append_right _ (List.mem_append_left _ (List.mem_of_getElem? (i := 152) (l := tables_1_4) rfl))))), rfl⟩
set_option maxRecDepth 100000 in
theorem xcwX8_is : Cond.code yX8_is cX8_is 4 (some .int) ∈ xTs := List.mem_filter.mpr ⟨List.mem_append_right _ (List.mem_append_right _ (List.mem_append_right _ (List.mem_append_right _ (List.mem_append_right _ (List.mem_append_right _ (List.mem_of_getElem? (i := 91) (l := tables_1_6) rfl)))))), rfl⟩
set_option maxRecDepth 100000 in
theorem xcwX8_isFull : Cond.code yX8_isFull cX8_isFull 2 (some .boolean) ∈ xTs := List.mem_filter.mpr ⟨List.mem_append_right _ (List.mem_append_right _ (List.mem_append_right _ (List.mem_append_right _ (List.mem_append_right _ (List.mem_append_right _ (List.mem_of_getElem? (i := 121) (l := tables_1_6) rfl)))))), rfl⟩
set_option maxRecDepth 100000 in
theorem xcwX8_isLetter : Cond.code yX8_isLetter cX8_isLetter 3 (some .boolean) ∈ xTs := List.mem_filter.mpr ⟨List.mem_append_right _ (List.mem_append_right _ (List.mem_append_right _ (List.mem_append_right _ (List.mem_append_right _ (List.mem_append_left _ (List.mem_of_getElem? (i := 159) (l := tables_1_5) rfl)))))), rfl⟩
set_option maxRecDepth 100000 in
theorem xcwX8_isNumbered : Cond.code yX8_isNumbered cX8_isNumbered 1 (some .boolean) ∈ xTs := List.mem_filter.mpr ⟨List.mem_append_right _ (List.mem_append_right _ (List.mem_append_right _ (List.mem_append_right _ (List.mem_append_right _ (List.mem_append_left _ (List.mem_of_getElem? (i := 220) (l := tables_1_5) rfl)))))), rfl⟩
set_option maxRecDepth 100000 in
theorem xcwX8_isPart : Cond.code yX8_isPart cX8_isPart 3 (some .boolean) ∈ xTs := List.mem_filter.mpr ⟨List.mem_append_right _ (List.mem_append_right _ (List.mem_append_right _ (List.mem_append_right _ (List.mem_append_right _ (List.mem_append_left _ (List.mem_of_getElem? (i := 209) (l := tables_1_5) rfl)))))), rfl⟩
set_option maxRecDepth 100000 in
theorem xcwX8_isSheet : Cond.code yX8_isSheet cX8_isSheet 1 (some .boolean) ∈ xTs := List.mem_filter.mpr ⟨List.mem_append_right _ (List.mem_append_right _ (List.mem_append_right _ (List.mem_append_right _ (List.mem_append_right _ (List.mem_append_right _ (List.mem_of_getElem? (i := 153) (l := tables_1_6) rfl)))))), rfl⟩
set_option maxRecDepth 100000 in
theorem xcwX8_isSign : Cond.code yX8_isSign cX8_isSign 2 (some .boolean) ∈ xTs := List.mem_filter.mpr ⟨List.mem_append_right _ (List.mem_append_right _ (List.mem_append_right _ (List.mem_append_right _ (List.mem_append_right _ (List.mem_append_left _ (List.mem_of_getElem? (i := 180) (l := tables_1_5) rfl)))))), rfl⟩
set_option maxRecDepth 100000 in
theorem xcwX8_isSignByte : Cond.code yX8_isSignByte cX8_isSignByte 1 (some .boolean) ∈ xTs := List.mem_filter.mpr ⟨List.mem_append_right _ (List.mem_append_right _ (List.mem_append_right _ (List.mem_append_right _ (List.mem_append_right _ (List.mem_append_left _ (List.mem_of_getElem? (i := 164) (l := tables_1_5) rfl)))))), rfl⟩
set_option maxRecDepth 100000 in
theorem xcwX8_isSo : Cond.code yX8_isSo cX8_isSo 6 (some .boolean) ∈ xTs := List.mem_filter.mpr ⟨List.mem_append_right _ (List.mem_append_right _ (List.mem_append_right _ (List.mem_append_right _ (List.mem_append_right _ (List.mem_append_right _ (List.mem_of_getElem? (i := 167) (l := tables_1_6) rfl)))))), rfl⟩
set_option maxRecDepth 100000 in
theorem xcwX8_isStream : Cond.code yX8_isStream cX8_isStream 1 (some .boolean) ∈ xTs := List.mem_filter.mpr ⟨List.mem_append_right _ (List.mem_append_right _ (List.mem_append_right _ (List.mem_append_right _ (List.mem_append_right _ (List.mem_append_left _ (List.mem_of_getElem? (i := 135) (l := tables_1_5) rfl)))))), rfl⟩
set_option maxRecDepth 100000 in
theorem xcwX8_isWord : Cond.code yX8_isWord cX8_isWord 6 (some .boolean) ∈ xTs := List.mem_filter.mpr ⟨List.mem_append_right _ (List.mem_append_right _ (List.mem_append_right _ (List.mem_append_right _ (List.mem_append_right _ (List.mem_append_left _ (List.mem_of_getElem? (i := 155) (l := tables_1_5) rfl)))))), rfl⟩
set_option maxRecDepth 100000 in
theorem xcwX8_item : Cond.code yX8_item cX8_item 3 (some .long) ∈ xTs := List.mem_filter.mpr ⟨List.mem_append_right _ (List.mem_append_right _ (List.mem_append_right _ (List.mem_append_right _ (List.mem_append_right _ (List.mem_append_right _ (List.mem_of_getElem? (i := 193) (l := tables_1_6) rfl)))))), rfl⟩
set_option maxRecDepth 100000 in
theorem xcwX8_joined : Cond.code yX8_joined cX8_joined 6 (some .int) ∈ xTs := List.mem_filter.mpr ⟨List.mem_append_right _ (List.mem_append_right _ (List.mem_append_right _ (List.mem_append_right _ (List.mem_append_right _ (List.mem_append_right _ (List.mem_of_getElem? (i := 75) (l := tables_1_6) rfl)))))), rfl⟩
set_option maxRecDepth 100000 in
theorem xcwX8_keeps : Cond.code yX8_keeps cX8_keeps 8 (some .int) ∈ xTs := List.mem_filter.mpr ⟨List.mem_append_right _ (List.mem_append_right _ (List.mem_append_right _ (List.mem_append_right _ (List.mem_append_right _ (List.mem_append_right _ (List.mem_of_getElem? (i := 55) (l := tables_1_6) rfl)))))), rfl⟩
set_option maxRecDepth 100000 in
theorem xcwX8_kindOf : Cond.code yX8_kindOf cX8_kindOf 1 (some .int) ∈ xTs := List.mem_filter.mpr ⟨List.mem_append_right _ (List.mem_append_right _ (List.mem_append_right _ (List.mem_append_right _ (List.mem_append_right _ (List.mem_append_left _ (List.mem_of_getElem? (i := 150) (l := tables_1_5) rfl)))))), rfl⟩
set_option maxRecDepth 100000 in
theorem xcwX8_kindWord : Cond.code yX8_kindWord cX8_kindWord 3 none ∈ xTs := List.mem_filter.mpr ⟨List.mem_append_right _ (List.mem_append_right _ (List.mem_append_right _ (List.mem_append_right _ (List.mem_append_right _ (List.mem_append_right _ (List.mem_of_getElem? (i := 13) (l := tables_1_6) rfl)))))), rfl⟩
set_option maxRecDepth 100000 in
theorem xcwX8_lay : Cond.code yX8_lay cX8_lay 8 (some .int) ∈ xTs := List.mem_filter.mpr ⟨List.mem_append_right _ (List.mem_append_right _ (List.mem_append_right _ (List.mem_append_right _ (List.mem_append_right _ (List.mem_append_right _ (List.mem_of_getElem? (i := 201) (l := tables_1_6) rfl)))))), rfl⟩
set_option maxRecDepth 100000 in
theorem xcwX8_laysAside : Cond.code yX8_laysAside cX8_laysAside 2 none ∈ xTs := List.mem_filter.mpr ⟨List.mem_append_right _ (List.mem_append_right _ (List.mem_append_right _ (List.mem_append_right _ (List.mem_append_right _ (List.mem_append_right _ (List.mem_of_getElem? (i := 142) (l := tables_1_6) rfl)))))), rfl⟩
set_option maxRecDepth 100000 in
theorem xcwX8_laysBack : Cond.code yX8_laysBack cX8_laysBack 2 none ∈ xTs := List.mem_filter.mpr ⟨List.mem_append_right _ (List.mem_append_right _ (List.mem_append_right _ (List.mem_append_right _ (List.mem_append_right _ (List.mem_append_right _ (List.mem_of_getElem? (i := 146) (l := tables_1_6) rfl)))))), rfl⟩
set_option maxRecDepth 100000 in
theorem xcwX8_limit : Cond.code yX8_limit cX8_limit 3 (some .int) ∈ xTs := List.mem_filter.mpr ⟨List.mem_append_right _ (List.mem_append_right _ (List.mem_append_right _ (List.mem_append_right _ (List.mem_append_right _ (List.mem_append_right _ (List.mem_of_getElem? (i := 104) (l := tables_1_6) rfl)))))), rfl⟩
set_option maxRecDepth 100000 in
theorem xcwX8_list : Cond.code yX8_list cX8_list 2 none ∈ xTs := List.mem_filter.mpr ⟨List.mem_append_right _ (List.mem_append_right _ (List.mem_append_right _ (List.mem_append_right _ (List.mem_append_right _ (List.mem_append_left _ (List.mem_of_getElem? (i := 192) (l := tables_1_5) rfl)))))), rfl⟩
set_option maxRecDepth 100000 in
theorem xcwX8_merges : Cond.code yX8_merges cX8_merges 12 (some .int) ∈ xTs := List.mem_filter.mpr ⟨List.mem_append_right _ (List.mem_append_right _ (List.mem_append_right _ (List.mem_append_right _ (List.mem_append_right _ (List.mem_append_right _ (List.mem_of_getElem? (i := 87) (l := tables_1_6) rfl)))))), rfl⟩
set_option maxRecDepth 100000 in
theorem xcwX8_need : Cond.code yX8_need cX8_need 4 (some .int) ∈ xTs := List.mem_filter.mpr ⟨List.mem_append_right _ (List.mem_append_right _ (List.mem_append_right _ (List.mem_append_right _ (List.mem_append_right _ (List.mem_append_right _ (List.mem_of_getElem? (i := 138) (l := tables_1_6) rfl)))))), rfl⟩
set_option maxRecDepth 100000 in
theorem xcwX8_next : Cond.code yX8_next cX8_next 3 none ∈ xTs := List.mem_filter.mpr ⟨List.mem_append_right _ (List.mem_append_right _ (List.mem_append_right _ (List.mem_append_right _ (List.mem_append_right _ (List.mem_append_left _ (List.mem_of_getElem? (i := 140) (l := tables_1_5) rfl)))))), rfl⟩
set_option maxRecDepth 100000 in
theorem xcwX8_num : Cond.code yX8_num cX8_num 2 (some .long) ∈ xTs := List.mem_filter.mpr ⟨List.mem_append_right _ (List.mem_append_right _ (List.mem_append_right _ (List.mem_append_right _ (List.mem_append_right _ (List.mem_append_left _ (List.mem_of_getElem? (i := 184) (l := tables_1_5) rfl)))))), rfl⟩
set_option maxRecDepth 100000 in
theorem xcwX8_number : Cond.code yX8_number cX8_number 3 (some .long) ∈ xTs := List.mem_filter.mpr ⟨List.mem_append_right _ (List.mem_append_right _ (List.mem_append_right _ (List.mem_append_right _ (List.mem_append_right _ (List.mem_append_left _ (List.mem_of_getElem? (i := 217) (l := tables_1_5) rfl)))))), rfl⟩
set_option maxRecDepth 100000 in
theorem xcwX8_op : Cond.code yX8_op cX8_op 4 (some .int) ∈ xTs := List.mem_filter.mpr ⟨List.mem_append_right _ (List.mem_append_right _ (List.mem_append_right _ (List.mem_append_right _ (List.mem_append_right _ (List.mem_append_left _ (List.mem_of_getElem? (i := 176) (l := tables_1_5) rfl)))))), rfl⟩
set_option maxRecDepth 100000 in
theorem xcwX8_other : Cond.code yX8_other cX8_other 2 (some .int) ∈ xTs := List.mem_filter.mpr ⟨List.mem_append_right _ (List.mem_append_right _ (List.mem_append_right _ (List.mem_append_right _ (List.mem_append_right _ (List.mem_append_right _ (List.mem_of_getElem? (i := 71) (l := tables_1_6) rfl)))))), rfl⟩
set_option maxRecDepth 100000 in
theorem xcwX8_outcome : Cond.code yX8_outcome cX8_outcome 4 (some .int) ∈ xTs := List.mem_filter.mpr ⟨List.mem_append_right _ (List.mem_append_right _ (List.mem_append_right _ (List.mem_append_right _ (List.mem_append_right _ (List.mem_append_right _ (List.mem_of_getElem? (i := 95) (l := tables_1_6) rfl)))))), rfl⟩
set_option maxRecDepth 100000 in
theorem xcwX8_part : Cond.code yX8_part cX8_part 5 (some .int) ∈ xTs := List.mem_filter.mpr ⟨List.mem_append_right _ (List.mem_append_right _ (List.mem_append_right _ (List.mem_append_right _ (List.mem_append_right _ (List.mem_append_left _ (List.mem_of_getElem? (i := 204) (l := tables_1_5) rfl)))))), rfl⟩
set_option maxRecDepth 100000 in
theorem xcwX8_passes : Cond.code yX8_passes cX8_passes 6 (some .int) ∈ xTs := List.mem_filter.mpr ⟨List.mem_append_right _ (List.mem_append_right _ (List.mem_append_right _ (List.mem_append_right _ (List.mem_append_right _ (List.mem_append_right _ (List.mem_of_getElem? (i := 79) (l := tables_1_6) rfl)))))), rfl⟩
set_option maxRecDepth 100000 in
theorem xcwX8_place : Cond.code yX8_place cX8_place 5 (some .int) ∈ xTs := List.mem_filter.mpr ⟨List.mem_append_right _ (List.mem_append_right _ (List.mem_append_right _ (List.mem_append_right _ (List.mem_append_right _ (List.mem_append_right _ (List.mem_of_getElem? (i := 43) (l := tables_1_6) rfl)))))), rfl⟩
set_option maxRecDepth 100000 in
theorem xcwX8_plain : Cond.code yX8_plain cX8_plain 5 (some .long) ∈ xTs := List.mem_filter.mpr ⟨List.mem_append_right _ (List.mem_append_right _ (List.mem_append_right _ (List.mem_append_right _ (List.mem_append_right _ (List.mem_append_left _ (List.mem_of_getElem? (i := 188) (l := tables_1_5) rfl)))))), rfl⟩
set_option maxRecDepth 100000 in
theorem xcwX8_print : Cond.code yX8_print cX8_print 3 (some .int) ∈ xTs := List.mem_filter.mpr ⟨List.mem_append_right _ (List.mem_append_right _ (List.mem_append_right _ (List.mem_append_right _ (List.mem_append_right _ (List.mem_append_right _ (List.mem_of_getElem? (i := 5) (l := tables_1_6) rfl)))))), rfl⟩
set_option maxRecDepth 100000 in
theorem xcwX8_prints : Cond.code yX8_prints cX8_prints 5 none ∈ xTs := List.mem_filter.mpr ⟨List.mem_append_right _ (List.mem_append_right _ (List.mem_append_right _ (List.mem_append_right _ (List.mem_append_right _ (List.mem_append_right _ (List.mem_of_getElem? (i := 9) (l := tables_1_6) rfl)))))), rfl⟩
set_option maxRecDepth 100000 in
theorem xcwX8_put : Cond.code yX8_put cX8_put 5 (some .int) ∈ xTs := List.mem_filter.mpr ⟨List.mem_append_right _ (List.mem_append_right _ (List.mem_append_right _ (List.mem_append_right _ (List.mem_append_right _ (List.mem_append_right _ (List.mem_of_getElem? (i := 189) (l := tables_1_6) rfl)))))), rfl⟩
set_option maxRecDepth 100000 in
theorem xcwX8_puts : Cond.code yX8_puts cX8_puts 2 none ∈ xTs := List.mem_filter.mpr ⟨List.mem_append_right _ (List.mem_append_right _ (List.mem_append_right _ (List.mem_append_right _ (List.mem_append_right _ (List.mem_append_right _ (List.mem_of_getElem? (i := 25) (l := tables_1_6) rfl)))))), rfl⟩
set_option maxRecDepth 100000 in
theorem xcwX8_rises : Cond.code yX8_rises cX8_rises 7 (some .int) ∈ xTs := List.mem_filter.mpr ⟨List.mem_append_right _ (List.mem_append_right _ (List.mem_append_right _ (List.mem_append_right _ (List.mem_append_right _ (List.mem_append_right _ (List.mem_of_getElem? (i := 134) (l := tables_1_6) rfl)))))), rfl⟩
set_option maxRecDepth 100000 in
theorem xcwX8_row : Cond.code yX8_row cX8_row 3 none ∈ xTs := List.mem_filter.mpr ⟨List.mem_append_right _ (List.mem_append_right _ (List.mem_append_right _ (List.mem_append_right _ (List.mem_append_right _ (List.mem_append_left _ (List.mem_of_getElem? (i := 168) (l := tables_1_5) rfl)))))), rfl⟩
set_option maxRecDepth 100000 in
theorem xcwX8_sheet : Cond.code yX8_sheet cX8_sheet 5 (some .int) ∈ xTs := List.mem_filter.mpr ⟨List.mem_append_right _ (List.mem_append_right _ (List.mem_append_right _ (List.mem_append_right _ (List.mem_append_right _ (List.mem_append_right _ (List.mem_of_getElem? (i := 158) (l := tables_1_6) rfl)))))), rfl⟩
set_option maxRecDepth 100000 in
theorem xcwX8_sieved : Cond.code yX8_sieved cX8_sieved 7 (some .int) ∈ xTs := List.mem_filter.mpr ⟨List.mem_append_right _ (List.mem_append_right _ (List.mem_append_right _ (List.mem_append_right _ (List.mem_append_right _ (List.mem_append_right _ (List.mem_of_getElem? (i := 83) (l := tables_1_6) rfl)))))), rfl⟩
set_option maxRecDepth 100000 in
theorem xcwX8_sum : Cond.code yX8_sum cX8_sum 7 (some .long) ∈ xTs := List.mem_filter.mpr ⟨List.mem_append_right _ (List.mem_append_right _ (List.mem_append_right _ (List.mem_append_right _ (List.mem_append_right _ (List.mem_append_right _ (List.mem_of_getElem? (i := 117) (l := tables_1_6) rfl)))))), rfl⟩
set_option maxRecDepth 100000 in
theorem xcwX8_taken : Cond.code yX8_taken cX8_taken 4 (some .int) ∈ xTs := List.mem_filter.mpr ⟨List.mem_append_right _ (List.mem_append_right _ (List.mem_append_right _ (List.mem_append_right _ (List.mem_append_right _ (List.mem_append_left _ (List.mem_of_getElem? (i := 237) (l := tables_1_5) rfl)))))), rfl⟩
set_option maxRecDepth 100000 in
theorem xcwX8_tells : Cond.code yX8_tells cX8_tells 13 (some .int) ∈ xTs := List.mem_filter.mpr ⟨List.mem_append_right _ (List.mem_append_right _ (List.mem_append_right _ (List.mem_append_right _ (List.mem_append_right _ (List.mem_append_right _ (List.mem_of_getElem? (i := 163) (l := tables_1_6) rfl)))))), rfl⟩
set_option maxRecDepth 100000 in
theorem xcwX8_tellsHead : Cond.code yX8_tellsHead cX8_tellsHead 8 (some .int) ∈ xTs := List.mem_filter.mpr ⟨List.mem_append_right _ (List.mem_append_right _ (List.mem_append_right _ (List.mem_append_right _ (List.mem_append_right _ (List.mem_append_right _ (List.mem_of_getElem? (i := 63) (l := tables_1_6) rfl)))))), rfl⟩
set_option maxRecDepth 100000 in
theorem xcwX8_tellsPlace : Cond.code yX8_tellsPlace cX8_tellsPlace 7 (some .int) ∈ xTs := List.mem_filter.mpr ⟨List.mem_append_right _ (List.mem_append_right _ (List.mem_append_right _ (List.mem_append_right _ (List.mem_append_right _ (List.mem_append_right _ (List.mem_of_getElem? (i := 51) (l := tables_1_6) rfl)))))), rfl⟩
set_option maxRecDepth 100000 in
theorem xcwX8_text : Cond.code yX8_text cX8_text 5 (some .int) ∈ xTs := List.mem_filter.mpr ⟨List.mem_append_right _ (List.mem_append_right _ (List.mem_append_right _ (List.mem_append_right _ (List.mem_append_right _ (List.mem_append_left _ (List.mem_of_getElem? (i := 132) (l := tables_1_5) rfl)))))), rfl⟩
set_option maxRecDepth 100000 in
theorem xcwX8_there : Cond.code yX8_there cX8_there 4 (some .int) ∈ xTs := List.mem_filter.mpr ⟨List.mem_append_right _ (List.mem_append_right _ (List.mem_append_right _ (List.mem_append_right _ (List.mem_append_right _ (List.mem_append_right _ (List.mem_of_getElem? (i := 34) (l := tables_1_6) rfl)))))), rfl⟩
set_option maxRecDepth 100000 in
theorem xcwX8_toldAll : Cond.code yX8_toldAll cX8_toldAll 5 (some .int) ∈ xTs := List.mem_filter.mpr ⟨List.mem_append_right _ (List.mem_append_right _ (List.mem_append_right _ (List.mem_append_right _ (List.mem_append_right _ (List.mem_append_right _ (List.mem_of_getElem? (i := 113) (l := tables_1_6) rfl)))))), rfl⟩
set_option maxRecDepth 100000 in
theorem xcwX8_toldHeads : Cond.code yX8_toldHeads cX8_toldHeads 4 (some .int) ∈ xTs := List.mem_filter.mpr ⟨List.mem_append_right _ (List.mem_append_right _ (List.mem_append_right _ (List.mem_append_right _ (List.mem_append_right _ (List.mem_append_left _ (List.mem_of_getElem? (i := 213) (l := tables_1_5) rfl)))))), rfl⟩
set_option maxRecDepth 100000 in
theorem xcwX8_twist : Cond.code yX8_twist cX8_twist 5 (some .int) ∈ xTs := List.mem_filter.mpr ⟨List.mem_append_right _ (List.mem_append_right _ (List.mem_append_right _ (List.mem_append_right _ (List.mem_append_right _ (List.mem_append_left _ (List.mem_of_getElem? (i := 230) (l := tables_1_5) rfl)))))), rfl⟩
set_option maxRecDepth 100000 in
theorem xcwX8_untells : Cond.code yX8_untells cX8_untells 3 none ∈ xTs := List.mem_filter.mpr ⟨List.mem_append_right _ (List.mem_append_right _ (List.mem_append_right _ (List.mem_append_right _ (List.mem_append_right _ (List.mem_append_left _ (List.mem_of_getElem? (i := 196) (l := tables_1_5) rfl)))))), rfl⟩
set_option maxRecDepth 100000 in
theorem xcwX8_word : Cond.code yX8_word cX8_word 6 none ∈ xTs := List.mem_filter.mpr ⟨List.mem_append_right _ (List.mem_append_right _ (List.mem_append_right _ (List.mem_append_right _ (List.mem_append_right _ (List.mem_append_right _ (List.mem_of_getElem? (i := 17) (l := tables_1_6) rfl)))))), rfl⟩
set_option maxRecDepth 100000 in
theorem xcwJ0_charAt_5068e : Cond.code yJ0_charAt_5068e cJ0_charAt_5068e 2 (some .char) ∈ xTs := List.mem_filter.mpr ⟨List.mem_append_right _ (List.mem_append_right _ (List.mem_append_left _ (List.mem_of_getElem? (i := 182) (l := tables_1_2) rfl))), rfl⟩
set_option maxRecDepth 100000 in
theorem xcwJ0_checkBoundsBeginEnd_23922 : Cond.code yJ0_checkBoundsBeginEnd_23922 cJ0_checkBoundsBeginEnd_23922 3 none ∈ xTs := List.mem_filter.mpr ⟨List.mem_append_right _ (List.mem_append_right _ (List.mem_append_left _ (List.mem_of_getElem? (i := 117) (l := tables_1_2) rfl))), rfl⟩
set_option maxRecDepth 100000 in
theorem xcwJ0_checkIndex_df160 : Cond.code yJ0_checkIndex_df160 cJ0_checkIndex_df160 2 none ∈ xTs := List.mem_filter.mpr ⟨List.mem_append_right _ (List.mem_append_right _ (List.mem_append_left _ (List.mem_of_getElem? (i := 188) (l := tables_1_2) rfl))), rfl⟩
set_option maxRecDepth 100000 in
theorem xcwJ0_coder_7d493 : Cond.code yJ0_coder_7d493 cJ0_coder_7d493 1 (some .byte) ∈ xTs := List.mem_filter.mpr ⟨List.mem_append_right _ (List.mem_append_right _ (List.mem_append_left _ (List.mem_of_getElem? (i := 84) (l := tables_1_2) rfl))), rfl⟩
set_option maxRecDepth 100000 in
theorem xcwJ0_indexOf_0f7a4 : Cond.code yJ0_indexOf_0f7a4 cJ0_indexOf_0f7a4 2 (some .int) ∈ xTs := List.mem_filter.mpr ⟨List.mem_append_right _ (List.mem_append_right _ (List.mem_append_left _ (List.mem_of_getElem? (i := 66) (l := tables_1_2) rfl))), rfl⟩
set_option maxRecDepth 100000 in
theorem xcwJ0_indexOf_7cf53 : Cond.code yJ0_indexOf_7cf53 cJ0_indexOf_7cf53 3 (some .int) ∈ xTs := List.mem_filter.mpr ⟨List.mem_append_right _ (List.mem_append_right _ (List.mem_append_left _ (List.mem_of_getElem? (i := 70) (l := tables_1_2) rfl))), rfl⟩
set_option maxRecDepth 100000 in
theorem xcwJ0_isLatin1_aae02 : Cond.code yJ0_isLatin1_aae02 cJ0_isLatin1_aae02 1 (some .boolean) ∈ xTs := List.mem_filter.mpr ⟨List.mem_append_right _ (List.mem_append_right _ (List.mem_append_left _ (List.mem_of_getElem? (i := 74) (l := tables_1_2) rfl))), rfl⟩
set_option maxRecDepth 100000 in
theorem xcwJ0_length_8abf5 : Cond.code yJ0_length_8abf5 cJ0_length_8abf5 1 (some .int) ∈ xTs := List.mem_filter.mpr ⟨List.mem_append_right _ (List.mem_append_right _ (List.mem_append_left _ (List.mem_of_getElem? (i := 80) (l := tables_1_2) rfl))), rfl⟩
set_option maxRecDepth 100000 in
theorem xcwJ1_canEncode_9a6ad : Cond.code yJ1_canEncode_9a6ad cJ1_canEncode_9a6ad 1 (some .boolean) ∈ xTs := List.mem_filter.mpr ⟨List.mem_append_right _ (List.mem_append_right _ (List.mem_append_left _ (List.mem_of_getElem? (i := 90) (l := tables_1_2) rfl))), rfl⟩
set_option maxRecDepth 100000 in
theorem xcwJ1_charAt_3b067 : Cond.code yJ1_charAt_3b067 cJ1_charAt_3b067 2 (some .char) ∈ xTs := List.mem_filter.mpr ⟨List.mem_append_right _ (List.mem_append_right _ (List.mem_append_left _ (List.mem_of_getElem? (i := 185) (l := tables_1_2) rfl))), rfl⟩
set_option maxRecDepth 100000 in
theorem xcwJ1_indexOfChar_4cfef : Cond.code yJ1_indexOfChar_4cfef cJ1_indexOfChar_4cfef 6 (some .int) ∈ xTs := List.mem_filter.mpr ⟨List.mem_append_right _ (List.mem_append_right _ (List.mem_append_left _ (List.mem_of_getElem? (i := 99) (l := tables_1_2) rfl))), rfl⟩
set_option maxRecDepth 100000 in
theorem xcwJ1_indexOf_4cfef : Cond.code yJ1_indexOf_4cfef cJ1_indexOf_4cfef 4 (some .int) ∈ xTs := List.mem_filter.mpr ⟨List.mem_append_right _ (List.mem_append_right _ (List.mem_append_left _ (List.mem_of_getElem? (i := 87) (l := tables_1_2) rfl))), rfl⟩
set_option maxRecDepth 100000 in
theorem xcwJ2_charAt_3b067 : Cond.code yJ2_charAt_3b067 cJ2_charAt_3b067 2 (some .char) ∈ xTs := List.mem_filter.mpr ⟨List.mem_append_right _ (List.mem_append_right _ (List.mem_append_left _ (List.mem_of_getElem? (i := 194) (l := tables_1_2) rfl))), rfl⟩
set_option maxRecDepth 100000 in
theorem xcwJ2_checkBoundsBeginEnd_d044e : Cond.code yJ2_checkBoundsBeginEnd_d044e cJ2_checkBoundsBeginEnd_d044e 3 none ∈ xTs := List.mem_filter.mpr ⟨List.mem_append_right _ (List.mem_append_right _ (List.mem_append_left _ (List.mem_of_getElem? (i := 111) (l := tables_1_2) rfl))), rfl⟩
set_option maxRecDepth 100000 in
theorem xcwJ2_checkIndex_2214a : Cond.code yJ2_checkIndex_2214a cJ2_checkIndex_2214a 2 none ∈ xTs := List.mem_filter.mpr ⟨List.mem_append_right _ (List.mem_append_right _ (List.mem_append_left _ (List.mem_of_getElem? (i := 197) (l := tables_1_2) rfl))), rfl⟩
set_option maxRecDepth 100000 in
theorem xcwJ2_getChar_3b067 : Cond.code yJ2_getChar_3b067 cJ2_getChar_3b067 2 (some .char) ∈ xTs := List.mem_filter.mpr ⟨List.mem_append_right _ (List.mem_append_right _ (List.mem_append_left _ (List.mem_of_getElem? (i := 128) (l := tables_1_2) rfl))), rfl⟩
set_option maxRecDepth 100000 in
theorem xcwJ2_indexOfCharUnsafe_4cfef : Cond.code yJ2_indexOfCharUnsafe_4cfef cJ2_indexOfCharUnsafe_4cfef 5 (some .int) ∈ xTs := List.mem_filter.mpr ⟨List.mem_append_right _ (List.mem_append_right _ (List.mem_append_left _ (List.mem_of_getElem? (i := 125) (l := tables_1_2) rfl))), rfl⟩
set_option maxRecDepth 100000 in
theorem xcwJ2_indexOfChar_4cfef : Cond.code yJ2_indexOfChar_4cfef cJ2_indexOfChar_4cfef 4 (some .int) ∈ xTs := List.mem_filter.mpr ⟨List.mem_append_right _ (List.mem_append_right _ (List.mem_append_left _ (List.mem_of_getElem? (i := 108) (l := tables_1_2) rfl))), rfl⟩
set_option maxRecDepth 100000 in
theorem xcwJ2_indexOfSupplementary_4cfef : Cond.code yJ2_indexOfSupplementary_4cfef cJ2_indexOfSupplementary_4cfef 7 (some .int) ∈ xTs := List.mem_filter.mpr ⟨List.mem_append_right _ (List.mem_append_right _ (List.mem_append_left _ (List.mem_of_getElem? (i := 137) (l := tables_1_2) rfl))), rfl⟩
set_option maxRecDepth 100000 in
theorem xcwJ2_indexOf_4cfef : Cond.code yJ2_indexOf_4cfef cJ2_indexOf_4cfef 4 (some .int) ∈ xTs := List.mem_filter.mpr ⟨List.mem_append_right _ (List.mem_append_right _ (List.mem_append_left _ (List.mem_of_getElem? (i := 102) (l := tables_1_2) rfl))), rfl⟩
set_option maxRecDepth 100000 in
theorem xcwJ2_length_9d52b : Cond.code yJ2_length_9d52b cJ2_length_9d52b 1 (some .int) ∈ xTs := List.mem_filter.mpr ⟨List.mem_append_right _ (List.mem_append_right _ (List.mem_append_left _ (List.mem_of_getElem? (i := 114) (l := tables_1_2) rfl))), rfl⟩
set_option maxRecDepth 100000 in
theorem xcwJ3_checkFromToIndex_8c36e : Cond.code yJ3_checkFromToIndex_8c36e cJ3_checkFromToIndex_8c36e 4 (some .int) ∈ xTs := List.mem_filter.mpr ⟨List.mem_append_right _ (List.mem_append_right _ (List.mem_append_left _ (List.mem_of_getElem? (i := 122) (l := tables_1_2) rfl))), rfl⟩
set_option maxRecDepth 100000 in
theorem xcwJ3_checkIndex_8e157 : Cond.code yJ3_checkIndex_8e157 cJ3_checkIndex_8e157 3 (some .int) ∈ xTs := List.mem_filter.mpr ⟨List.mem_append_right _ (List.mem_append_right _ (List.mem_append_left _ (List.mem_of_getElem? (i := 191) (l := tables_1_2) rfl))), rfl⟩
set_option maxRecDepth 100000 in
theorem xcwJ11_highSurrogate_5068e : Cond.code yJ11_highSurrogate_5068e cJ11_highSurrogate_5068e 1 (some .char) ∈ xTs := List.mem_filter.mpr ⟨List.mem_append_right _ (List.mem_append_right _ (List.mem_append_left _ (List.mem_of_getElem? (i := 143) (l := tables_1_2) rfl))), rfl⟩
set_option maxRecDepth 100000 in
theorem xcwJ11_isValidCodePoint_9a6ad : Cond.code yJ11_isValidCodePoint_9a6ad cJ11_isValidCodePoint_9a6ad 2 (some .boolean) ∈ xTs := List.mem_filter.mpr ⟨List.mem_append_right _ (List.mem_append_right _ (List.mem_append_left _ (List.mem_of_getElem? (i := 140) (l := tables_1_2) rfl))), rfl⟩
set_option maxRecDepth 100000 in
theorem xcwJ11_lowSurrogate_5068e : Cond.code yJ11_lowSurrogate_5068e cJ11_lowSurrogate_5068e 1 (some .char) ∈ xTs := List.mem_filter.mpr ⟨List.mem_append_right _ (List.mem_append_right _ (List.mem_append_left _ (List.mem_of_getElem? (i := 147) (l := tables_1_2) rfl))), rfl⟩
theorem xcw_0 : ∀ e ∈ xall_0, e.1.1 ≠ yL_law → Cond.code e.1.1 e.1.2.1 e.1.2.2.1 e.1.2.2.2 ∈ xTs := List.forall_mem_cons.mpr ⟨fun z => absurd rfl z, List.forall_mem_cons.mpr ⟨fun z => xcwX0_allows, List.forall_mem_cons.mpr ⟨fun z => xcwX0_hasNumber, List.forall_mem_cons.mpr ⟨fun z => xcwX0_rows, List.forall_mem_cons.mpr ⟨fun z => xcwX0_shape, List.forall_mem_cons.mpr ⟨fun z => xcwX0_word, List.forall_mem_cons.mpr ⟨fun z => xcwX1_init, List.forall_mem_cons.mpr ⟨fun z => xcwX1_writeBlank, List.forall_mem_cons.mpr ⟨fun z => xcwX1_writeByte, List.forall_mem_cons.mpr ⟨fun z => xcwX1_writeField, List.forall_mem_cons.mpr ⟨fun z => xcwX1_writeNum, List.forall_mem_cons.mpr ⟨fun z => xcwX1_writeNums, List.forall_mem_cons.mpr ⟨fun z => xcwX1_writePart, List.forall_mem_cons.mpr ⟨fun z => xcwX1_writeSign, List.forall_mem_cons.mpr ⟨fun z => xcwX1_writeStream, List.forall_mem_cons.mpr ⟨fun z => xcwX1_writeWord, List.forall_mem_cons.mpr ⟨fun z => xcwX2_addByte, List.forall_mem_cons.mpr ⟨fun z => xcwX2_init, List.forall_mem_cons.mpr ⟨fun z => xcwX2_isSign, List.forall_mem_cons.mpr ⟨fun z => xcwX2_isWord, List.forall_mem_cons.mpr ⟨fun z => xcwX2_kindOfWord, List.forall_mem_cons.mpr ⟨fun z => xcwX2_meaningOf, List.forall_mem_cons.mpr ⟨fun z => xcwX2_miss, List.forall_mem_cons.mpr ⟨fun z => xcwX2_readField, List.forall_mem_cons.mpr ⟨fun z => xcwX2_readNum, List.forall_mem_cons.mpr ⟨fun z => xcwX2_readNumber, List.forall_mem_cons.mpr ⟨fun z => xcwX2_readNums, List.forall_mem_cons.mpr ⟨fun z => xcwX2_readPart, List.forall_mem_cons.mpr ⟨fun z => xcwX2_readSign, List.forall_mem_cons.mpr ⟨fun z => xcwX2_readTape, List.forall_mem_cons.mpr ⟨fun z => xcwX2_sortOf, List.forall_mem_cons.mpr ⟨fun z => xcwX2_splitTape, fun _ h => absurd h List.not_mem_nil⟩⟩⟩⟩⟩⟩⟩⟩⟩⟩⟩⟩⟩⟩⟩⟩⟩⟩⟩⟩⟩⟩⟩⟩⟩⟩⟩⟩⟩⟩⟩⟩
theorem xcw_1 : ∀ e ∈ xall_1, e.1.1 ≠ yL_law → Cond.code e.1.1 e.1.2.1 e.1.2.2.1 e.1.2.2.2 ∈ xTs := List.forall_mem_cons.mpr ⟨fun z => xcwX3_init, List.forall_mem_cons.mpr ⟨fun z => xcwX3_isMissing, List.forall_mem_cons.mpr ⟨fun z => xcwX3_move, List.forall_mem_cons.mpr ⟨fun z => xcwX3_read, List.forall_mem_cons.mpr ⟨fun z => xcwX3_renew, List.forall_mem_cons.mpr ⟨fun z => xcwX3_spans, List.forall_mem_cons.mpr ⟨fun z => xcwX3_write, List.forall_mem_cons.mpr ⟨fun z => xcwX4_addUp, List.forall_mem_cons.mpr ⟨fun z => xcwX4_askHead, List.forall_mem_cons.mpr ⟨fun z => xcwX4_askPlace, List.forall_mem_cons.mpr ⟨fun z => xcwX4_begin, List.forall_mem_cons.mpr ⟨fun z => xcwX4_beginsRun, List.forall_mem_cons.mpr ⟨fun z => xcwX4_behindNames, List.forall_mem_cons.mpr ⟨fun z => xcwX4_combine, List.forall_mem_cons.mpr ⟨fun z => xcwX4_firstUnlike, List.forall_mem_cons.mpr ⟨fun z => xcwX4_gather, List.forall_mem_cons.mpr ⟨fun z => xcwX4_init, List.forall_mem_cons.mpr ⟨fun z => xcwX4_isThere, List.forall_mem_cons.mpr ⟨fun z => xcwX4_mergePlace, List.forall_mem_cons.mpr ⟨fun z => xcwX4_outcome, List.forall_mem_cons.mpr ⟨fun z => xcwX4_passes, List.forall_mem_cons.mpr ⟨fun z => xcwX4_passesOwnHeads, List.forall_mem_cons.mpr ⟨fun z => xcwX4_placeOf, List.forall_mem_cons.mpr ⟨fun z => xcwX4_rising, List.forall_mem_cons.mpr ⟨fun z => xcwX4_seekPlace, List.forall_mem_cons.mpr ⟨fun z => xcwX4_seeks, List.forall_mem_cons.mpr ⟨fun z => xcwX4_tellHead, List.forall_mem_cons.mpr ⟨fun z => xcwX4_tellNumber, List.forall_mem_cons.mpr ⟨fun z => xcwX4_tellPlace, List.forall_mem_cons.mpr ⟨fun z => xcwX5_allParts, List.forall_mem_cons.mpr ⟨fun z => xcwX5_clearPart, List.forall_mem_cons.mpr ⟨fun z => xcwX5_close, fun _ h => absurd h List.not_mem_nil⟩⟩⟩⟩⟩⟩⟩⟩⟩⟩⟩⟩⟩⟩⟩⟩⟩⟩⟩⟩⟩⟩⟩⟩⟩⟩⟩⟩⟩⟩⟩⟩
theorem xcw_2 : ∀ e ∈ xall_2, e.1.1 ≠ yL_law → Cond.code e.1.1 e.1.2.1 e.1.2.2.1 e.1.2.2.2 ∈ xTs := List.forall_mem_cons.mpr ⟨fun z => xcwX5_filledStreams, List.forall_mem_cons.mpr ⟨fun z => xcwX5_firstRow, List.forall_mem_cons.mpr ⟨fun z => xcwX5_init, List.forall_mem_cons.mpr ⟨fun z => xcwX5_secondRow, List.forall_mem_cons.mpr ⟨fun z => xcwX5_takeAll, List.forall_mem_cons.mpr ⟨fun z => xcwX5_takeParts, List.forall_mem_cons.mpr ⟨fun z => xcwX5_takeStream, List.forall_mem_cons.mpr ⟨fun z => xcwX6_allHeads, List.forall_mem_cons.mpr ⟨fun z => xcwX6_allPlaces, List.forall_mem_cons.mpr ⟨fun z => xcwX6_init, List.forall_mem_cons.mpr ⟨fun z => xcwX6_meet, List.forall_mem_cons.mpr ⟨fun z => xcwX6_takeAll, List.forall_mem_cons.mpr ⟨fun z => xcwX6_takePart, List.forall_mem_cons.mpr ⟨fun z => xcwX6_untell, List.forall_mem_cons.mpr ⟨fun z => xcwX6_untellPart, List.forall_mem_cons.mpr ⟨fun z => xcwX7_back, List.forall_mem_cons.mpr ⟨fun z => xcwX7_copy, List.forall_mem_cons.mpr ⟨fun z => xcwX7_count, List.forall_mem_cons.mpr ⟨fun z => xcwX7_counted, List.forall_mem_cons.mpr ⟨fun z => xcwX7_differ, List.forall_mem_cons.mpr ⟨fun z => xcwX7_empty, List.forall_mem_cons.mpr ⟨fun z => xcwX7_entry, List.forall_mem_cons.mpr ⟨fun z => xcwX7_feed, List.forall_mem_cons.mpr ⟨fun z => xcwX7_film, List.forall_mem_cons.mpr ⟨fun z => xcwX7_find, List.forall_mem_cons.mpr ⟨fun z => xcwX7_forget, List.forall_mem_cons.mpr ⟨fun z => xcwX7_hasPart, List.forall_mem_cons.mpr ⟨fun z => xcwX7_head, List.forall_mem_cons.mpr ⟨fun z => xcwX7_image, List.forall_mem_cons.mpr ⟨fun z => xcwX7_init, List.forall_mem_cons.mpr ⟨fun z => xcwX7_is, List.forall_mem_cons.mpr ⟨fun z => xcwX7_isEmpty, fun _ h => absurd h List.not_mem_nil⟩⟩⟩⟩⟩⟩⟩⟩⟩⟩⟩⟩⟩⟩⟩⟩⟩⟩⟩⟩⟩⟩⟩⟩⟩⟩⟩⟩⟩⟩⟩⟩
theorem xcw_3 : ∀ e ∈ xall_3, e.1.1 ≠ yL_law → Cond.code e.1.1 e.1.2.1 e.1.2.2.1 e.1.2.2.2 ∈ xTs := List.forall_mem_cons.mpr ⟨fun z => xcwX7_isQuestion, List.forall_mem_cons.mpr ⟨fun z => xcwX7_isSheet, List.forall_mem_cons.mpr ⟨fun z => xcwX7_isStream, List.forall_mem_cons.mpr ⟨fun z => xcwX7_isToldBy, List.forall_mem_cons.mpr ⟨fun z => xcwX7_item, List.forall_mem_cons.mpr ⟨fun z => xcwX7_lay, List.forall_mem_cons.mpr ⟨fun z => xcwX7_limit, List.forall_mem_cons.mpr ⟨fun z => xcwX7_need, List.forall_mem_cons.mpr ⟨fun z => xcwX7_number, List.forall_mem_cons.mpr ⟨fun z => xcwX7_part, List.forall_mem_cons.mpr ⟨fun z => xcwX7_print, List.forall_mem_cons.mpr ⟨fun z => xcwX7_put, List.forall_mem_cons.mpr ⟨fun z => xcwX7_refusedPlace, List.forall_mem_cons.mpr ⟨fun z => xcwX7_refusedRow, List.forall_mem_cons.mpr ⟨fun z => xcwX7_rises, List.forall_mem_cons.mpr ⟨fun z => xcwX7_sheet, List.forall_mem_cons.mpr ⟨fun z => xcwX7_sum, List.forall_mem_cons.mpr ⟨fun z => xcwX7_taken, List.forall_mem_cons.mpr ⟨fun z => xcwX7_tellingNumbers, List.forall_mem_cons.mpr ⟨fun z => xcwX7_tellingStreams, List.forall_mem_cons.mpr ⟨fun z => xcwX7_tells, List.forall_mem_cons.mpr ⟨fun z => xcwX7_text, List.forall_mem_cons.mpr ⟨fun z => xcwX7_there, List.forall_mem_cons.mpr ⟨fun z => xcwX7_twist, List.forall_mem_cons.mpr ⟨fun z => xcwX8_back, List.forall_mem_cons.mpr ⟨fun z => xcwX8_begins, List.forall_mem_cons.mpr ⟨fun z => xcwX8_byteAt, List.forall_mem_cons.mpr ⟨fun z => xcwX8_copy, List.forall_mem_cons.mpr ⟨fun z => xcwX8_count, List.forall_mem_cons.mpr ⟨fun z => xcwX8_cuts, List.forall_mem_cons.mpr ⟨fun z => xcwX8_differ, List.forall_mem_cons.mpr ⟨fun z => xcwX8_digits, fun _ h => absurd h List.not_mem_nil⟩⟩⟩⟩⟩⟩⟩⟩⟩⟩⟩⟩⟩⟩⟩⟩⟩⟩⟩⟩⟩⟩⟩⟩⟩⟩⟩⟩⟩⟩⟩⟩
theorem xcw_4 : ∀ e ∈ xall_4, e.1.1 ≠ yL_law → Cond.code e.1.1 e.1.2.1 e.1.2.2.1 e.1.2.2.2 ∈ xTs := List.forall_mem_cons.mpr ⟨fun z => xcwX8_empty, List.forall_mem_cons.mpr ⟨fun z => xcwX8_entry, List.forall_mem_cons.mpr ⟨fun z => xcwX8_fail, List.forall_mem_cons.mpr ⟨fun z => xcwX8_feed, List.forall_mem_cons.mpr ⟨fun z => xcwX8_film, List.forall_mem_cons.mpr ⟨fun z => xcwX8_find, List.forall_mem_cons.mpr ⟨fun z => xcwX8_followed, List.forall_mem_cons.mpr ⟨fun z => xcwX8_forget, List.forall_mem_cons.mpr ⟨fun z => xcwX8_full, List.forall_mem_cons.mpr ⟨fun z => xcwX8_gap, List.forall_mem_cons.mpr ⟨fun z => xcwX8_groupOf, List.forall_mem_cons.mpr ⟨fun z => xcwX8_head, List.forall_mem_cons.mpr ⟨fun z => xcwX8_headAsked, List.forall_mem_cons.mpr ⟨fun z => xcwX8_image, List.forall_mem_cons.mpr ⟨fun z => xcwX8_in, List.forall_mem_cons.mpr ⟨fun z => xcwX8_init, List.forall_mem_cons.mpr ⟨fun z => xcwX8_is, List.forall_mem_cons.mpr ⟨fun z => xcwX8_isFull, List.forall_mem_cons.mpr ⟨fun z => xcwX8_isLetter, List.forall_mem_cons.mpr ⟨fun z => xcwX8_isNumbered, List.forall_mem_cons.mpr ⟨fun z => xcwX8_isPart, List.forall_mem_cons.mpr ⟨fun z => xcwX8_isSheet, List.forall_mem_cons.mpr ⟨fun z => xcwX8_isSign, List.forall_mem_cons.mpr ⟨fun z => xcwX8_isSignByte, List.forall_mem_cons.mpr ⟨fun z => xcwX8_isSo, List.forall_mem_cons.mpr ⟨fun z => xcwX8_isStream, List.forall_mem_cons.mpr ⟨fun z => xcwX8_isWord, List.forall_mem_cons.mpr ⟨fun z => xcwX8_item, List.forall_mem_cons.mpr ⟨fun z => xcwX8_joined, List.forall_mem_cons.mpr ⟨fun z => xcwX8_keeps, List.forall_mem_cons.mpr ⟨fun z => xcwX8_kindOf, List.forall_mem_cons.mpr ⟨fun z => xcwX8_kindWord, fun _ h => absurd h List.not_mem_nil⟩⟩⟩⟩⟩⟩⟩⟩⟩⟩⟩⟩⟩⟩⟩⟩⟩⟩⟩⟩⟩⟩⟩⟩⟩⟩⟩⟩⟩⟩⟩⟩
theorem xcw_5 : ∀ e ∈ xall_5, e.1.1 ≠ yL_law → Cond.code e.1.1 e.1.2.1 e.1.2.2.1 e.1.2.2.2 ∈ xTs := List.forall_mem_cons.mpr ⟨fun z => xcwX8_lay, List.forall_mem_cons.mpr ⟨fun z => xcwX8_laysAside, List.forall_mem_cons.mpr ⟨fun z => xcwX8_laysBack, List.forall_mem_cons.mpr ⟨fun z => xcwX8_limit, List.forall_mem_cons.mpr ⟨fun z => xcwX8_list, List.forall_mem_cons.mpr ⟨fun z => xcwX8_merges, List.forall_mem_cons.mpr ⟨fun z => xcwX8_need, List.forall_mem_cons.mpr ⟨fun z => xcwX8_next, List.forall_mem_cons.mpr ⟨fun z => xcwX8_num, List.forall_mem_cons.mpr ⟨fun z => xcwX8_number, List.forall_mem_cons.mpr ⟨fun z => xcwX8_op, List.forall_mem_cons.mpr ⟨fun z => xcwX8_other, List.forall_mem_cons.mpr ⟨fun z => xcwX8_outcome, List.forall_mem_cons.mpr ⟨fun z => xcwX8_part, List.forall_mem_cons.mpr ⟨fun z => xcwX8_passes, List.forall_mem_cons.mpr ⟨fun z => xcwX8_place, List.forall_mem_cons.mpr ⟨fun z => xcwX8_plain, List.forall_mem_cons.mpr ⟨fun z => xcwX8_print, List.forall_mem_cons.mpr ⟨fun z => xcwX8_prints, List.forall_mem_cons.mpr ⟨fun z => xcwX8_put, List.forall_mem_cons.mpr ⟨fun z => xcwX8_puts, List.forall_mem_cons.mpr ⟨fun z => xcwX8_rises, List.forall_mem_cons.mpr ⟨fun z => xcwX8_row, List.forall_mem_cons.mpr ⟨fun z => xcwX8_sheet, List.forall_mem_cons.mpr ⟨fun z => xcwX8_sieved, List.forall_mem_cons.mpr ⟨fun z => xcwX8_sum, List.forall_mem_cons.mpr ⟨fun z => xcwX8_taken, List.forall_mem_cons.mpr ⟨fun z => xcwX8_tells, List.forall_mem_cons.mpr ⟨fun z => xcwX8_tellsHead, List.forall_mem_cons.mpr ⟨fun z => xcwX8_tellsPlace, List.forall_mem_cons.mpr ⟨fun z => xcwX8_text, List.forall_mem_cons.mpr ⟨fun z => xcwX8_there, fun _ h => absurd h List.not_mem_nil⟩⟩⟩⟩⟩⟩⟩⟩⟩⟩⟩⟩⟩⟩⟩⟩⟩⟩⟩⟩⟩⟩⟩⟩⟩⟩⟩⟩⟩⟩⟩⟩
theorem xcw_6 : ∀ e ∈ xall_6, e.1.1 ≠ yL_law → Cond.code e.1.1 e.1.2.1 e.1.2.2.1 e.1.2.2.2 ∈ xTs := List.forall_mem_cons.mpr ⟨fun z => xcwX8_toldAll, List.forall_mem_cons.mpr ⟨fun z => xcwX8_toldHeads, List.forall_mem_cons.mpr ⟨fun z => xcwX8_twist, List.forall_mem_cons.mpr ⟨fun z => xcwX8_untells, List.forall_mem_cons.mpr ⟨fun z => xcwX8_word, List.forall_mem_cons.mpr ⟨fun z => xcwJ0_charAt_5068e, List.forall_mem_cons.mpr ⟨fun z => xcwJ0_checkBoundsBeginEnd_23922, List.forall_mem_cons.mpr ⟨fun z => xcwJ0_checkIndex_df160, List.forall_mem_cons.mpr ⟨fun z => xcwJ0_coder_7d493, List.forall_mem_cons.mpr ⟨fun z => xcwJ0_indexOf_0f7a4, List.forall_mem_cons.mpr ⟨fun z => xcwJ0_indexOf_7cf53, List.forall_mem_cons.mpr ⟨fun z => xcwJ0_isLatin1_aae02, List.forall_mem_cons.mpr ⟨fun z => xcwJ0_length_8abf5, List.forall_mem_cons.mpr ⟨fun z => xcwJ1_canEncode_9a6ad, List.forall_mem_cons.mpr ⟨fun z => xcwJ1_charAt_3b067, List.forall_mem_cons.mpr ⟨fun z => xcwJ1_indexOfChar_4cfef, List.forall_mem_cons.mpr ⟨fun z => xcwJ1_indexOf_4cfef, List.forall_mem_cons.mpr ⟨fun z => xcwJ2_charAt_3b067, List.forall_mem_cons.mpr ⟨fun z => xcwJ2_checkBoundsBeginEnd_d044e, List.forall_mem_cons.mpr ⟨fun z => xcwJ2_checkIndex_2214a, List.forall_mem_cons.mpr ⟨fun z => xcwJ2_getChar_3b067, List.forall_mem_cons.mpr ⟨fun z => xcwJ2_indexOfCharUnsafe_4cfef, List.forall_mem_cons.mpr ⟨fun z => xcwJ2_indexOfChar_4cfef, List.forall_mem_cons.mpr ⟨fun z => xcwJ2_indexOfSupplementary_4cfef, List.forall_mem_cons.mpr ⟨fun z => xcwJ2_indexOf_4cfef, List.forall_mem_cons.mpr ⟨fun z => xcwJ2_length_9d52b, List.forall_mem_cons.mpr ⟨fun z => xcwJ3_checkFromToIndex_8c36e, List.forall_mem_cons.mpr ⟨fun z => xcwJ3_checkIndex_8e157, List.forall_mem_cons.mpr ⟨fun z => xcwJ11_highSurrogate_5068e, List.forall_mem_cons.mpr ⟨fun z => xcwJ11_isValidCodePoint_9a6ad, List.forall_mem_cons.mpr ⟨fun z => xcwJ11_lowSurrogate_5068e, fun _ h => absurd h List.not_mem_nil⟩⟩⟩⟩⟩⟩⟩⟩⟩⟩⟩⟩⟩⟩⟩⟩⟩⟩⟩⟩⟩⟩⟩⟩⟩⟩⟩⟩⟩⟩⟩
def xckM (own : String) (q : Nat × Nat × Nat × Nat × Nat × Nat) : Bool := match q with
  | (k, 6, _, _, _, pl) => xis pl (.methodLink own k Lib.objectInit)
  | (k, 7, _, _, _, pl) => xis pl (.methodLink own k arraycopyName)
  | (k, 8, _, _, _, pl) => xis pl (.methodLink own k Lib.Math.max.name)
  | (k, 9, _, _, _, pl) => xis pl (.methodLink own k Lib.Math.min.name)
  | (k, 0, N, na, 98, pl) => match xent N, xpl N with
    | some e, some p => (decide (N < 223) && decide (0 < N) && !decide (e.1.1 = yL_law)) && decide (0 < na) && decide ((parseMethodDescriptor e.1.1.desc).map (fun d => d.parameters.length) = some (na - 1)) && decide (e.1.1.cls = "java/lang/String") && xis pl (.methodLink own k e.1.1) && xis p.2.2.1 (.instanceMethod e.1.1) && xis p.2.2.2 (.selects e.1.1.cls e.1.1 e.1.1)
    | _, _ => false
  | (k, 0, N, na, ci, pl) => match xent N, xpl N, vwCl[ci]? with
    | some e, some p, some (C, _, _) => !decide (ci = 98) && (decide (N < 223) && decide (0 < N) && !decide (e.1.1 = yL_law)) && decide (0 < na) && decide ((parseMethodDescriptor e.1.1.desc).map (fun d => d.parameters.length) = some (na - 1)) && decide (C = e.1.1.cls) && xis pl (.methodLink own k e.1.1) && xis p.2.2.1 (.instanceMethod e.1.1) && xis p.2.2.2 (.selects e.1.1.cls e.1.1 e.1.1)
    | _, _, _ => false
  | (k, 1, N, na, _, pl) => match xent N, xpl N with
    | some e, some p => (decide (N < 223) && decide (0 < N) && !decide (e.1.1 = yL_law)) && decide ((parseMethodDescriptor e.1.1.desc).map (fun d => d.parameters.length) = some na) && xis pl (.methodLink own k e.1.1) && xis p.2.2.1 (.static e.1.1)
    | _, _ => false
  | (k, 4, N, na, _, pl) => match xent N, xpl N with
    | some e, some p => (decide (N < 223) && decide (0 < N) && !decide (e.1.1 = yL_law)) && decide (0 < na) && decide ((parseMethodDescriptor e.1.1.desc).map (fun d => d.parameters.length) = some (na - 1)) && xis pl (.methodLink own k e.1.1) && decide (e.1.1.name = "<init>") && xis p.2.2.1 (.instanceMethod e.1.1) && decide (e.1.2.2.2 = none)
    | _, _ => false
  | (k, 5, N, na, _, pl) => match xent N, xpl N with
    | some e, some p => (decide (N < 223) && decide (0 < N) && !decide (e.1.1 = yL_law)) && decide (0 < na) && decide ((parseMethodDescriptor e.1.1.desc).map (fun d => d.parameters.length) = some (na - 1)) && decide ((own, k, e.1.1, "LateRows") ∈ xnest.1) && decide (e.1.1.name = "<init>") && xis p.2.2.1 (.instanceMethod e.1.1) && decide (e.1.2.2.2 = none)
    | _, _ => false
  | _ => false
def xckMl (l : List (Nat × Nat × Nat × Nat × Nat × Nat)) (own : String) : Bool := l.all (xckM own)
theorem xckM_all : (List.zip xlM xcn).all (fun q => xckMl q.1 q.2) = true := by decide +kernel
theorem xcode_in {N : Nat} {e : xEn} (he : xent N = some e) (h : N < 223) (h0 : 0 < N) (hy : ¬ e.1.1 = yL_law) : plainName (xMet xg N).1.cls = true ∧ Cond.code (xMet xg N).1 (xMet xg N).2.1 (xMet xg N).2.2.1 (xMet xg N).2.2.2 ∈ xTs ∧ Cond.initialized (xMet xg N).1.cls ∈ xTs ∧ ((xMet xg N).1.cls ≠ "java/lang/invoke/MethodHandle" ∧ (xMet xg N).1.cls ≠ "java/lang/invoke/VarHandle") ∧ (xMet xg N).2.2.1 ≤ 40 := by
  have h1 := xcode_all h0 h
  unfold xcode at h1
  rw [he] at h1
  rw [xent_met he]
  split at h1
  · rename_i e' q z1 z2
    cases z1
    simp only [Bool.and_eq_true, decide_eq_true_eq, Bool.not_eq_true', decide_eq_false_iff_not] at h1
    obtain ⟨⟨⟨⟨a1, a3⟩, a4⟩, a5⟩, a6⟩ := h1
    exact ⟨a1, xent_all (P := fun e => e.1.1 ≠ yL_law → Cond.code e.1.1 e.1.2.1 e.1.2.2.1 e.1.2.2.2 ∈ xTs) xcw_0 xcw_1 xcw_2 xcw_3 xcw_4 xcw_5 xcw_6 he hy, xis_in a3, ⟨a4, a5⟩, a6⟩
  · cases h1
def xckSl (l : List (Nat × Nat)) (own : String) : Bool := l.all (fun q => xrs.any (fun r => decide (r.1 = own) && decide (r.2.1 = q.1) && decide (r.2.2.2 = q.2)))
theorem xckS_all : (List.zip xlS xcn).all (fun q => xckSl q.1 q.2) = true := by decide +kernel
theorem xok_str : ∀ M k i, xStr xg M k = some i → ∃ tx, ((xMet xg M).1.cls, k, tx, i) ∈ xnest.2 := by
  intro M k i h
  obtain ⟨e, r, he, hr, hm⟩ := xlk_in (t := xlS) h
  have h1 := List.all_eq_true.mp (xzip (f := xckSl) xckS_all hr (xent_cn he)) _ hm
  obtain ⟨q, hq, h2⟩ := List.any_eq_true.mp h1
  simp only [Bool.and_eq_true, decide_eq_true_eq] at h2
  obtain ⟨⟨e1, e2⟩, e3⟩ := h2
  refine ⟨q.2.2.1, ?_⟩
  rw [← e1, ← e2, ← e3]
  exact hq
set_option maxHeartbeats 4000000 in
theorem xg_okm : xOKm xg vwCl xTs xnest := by
  refine ⟨xok_str, ?_⟩
  intro M k kind N na ci h
  have h : (match xlk xlM M k with | some (kind, N, na, ci, _) => some (kind, N, na, ci) | none => none) = some (kind, N, na, ci) := h
  split at h
  · rename_i kind' N' na' ci' pl hq
    cases h
    obtain ⟨e0, r, he0, hr, hm⟩ := xlk_in hq
    have h1 := List.all_eq_true.mp (xzip (f := xckMl) xckM_all hr (xent_cn he0)) _ hm
    unfold xckM at h1
    split at h1
    · rename_i z; cases z
      exact ⟨xis_in h1, xis_in (i := 107) (by decide +kernel), xis_in (i := 108) (by decide +kernel)⟩
    · rename_i z; cases z
      exact ⟨xis_in h1, xis_in (i := 591) (by decide +kernel), xis_in (i := 590) (by decide +kernel), xis_in (i := 100) (by decide +kernel)⟩
    · rename_i z; cases z
      exact ⟨xis_in h1, xis_in (i := 416) (by decide +kernel), xis_in (i := 95) (by decide +kernel), xis_in (i := 417) (by decide +kernel)⟩
    · rename_i z; cases z
      exact ⟨xis_in h1, xis_in (i := 419) (by decide +kernel), xis_in (i := 95) (by decide +kernel), xis_in (i := 420) (by decide +kernel)⟩
    · rename_i z; cases z
      split at h1
      · rename_i e p he hp
        simp only [Bool.and_eq_true, decide_eq_true_eq, Bool.not_eq_true', decide_eq_false_iff_not] at h1
        obtain ⟨⟨⟨⟨⟨⟨⟨⟨a1, a1b⟩, a1c⟩, a2⟩, a3⟩, a4⟩, a5⟩, a6⟩, a7⟩ := h1
        refine ⟨xcode_in he a1 a1b a1c, ?_⟩
        rw [xent_met he]
        exact ⟨a3, a2, Or.inl ⟨rfl, a4⟩, xis_in a5, xis_in a6, xis_in a7⟩
      · cases h1
    · rename_i z; cases z
      split at h1
      · rename_i e p C T NN he hp hc
        simp only [Bool.and_eq_true, decide_eq_true_eq, Bool.not_eq_true', decide_eq_false_iff_not] at h1
        obtain ⟨⟨⟨⟨⟨⟨⟨a0, ⟨a1, a1b⟩, a1c⟩, a2⟩, a3⟩, a4⟩, a5⟩, a6⟩, a7⟩ := h1
        refine ⟨xcode_in he a1 a1b a1c, ?_⟩
        rw [xent_met he]
        exact ⟨a3, a2, Or.inr ⟨a0, T, NN, by rw [← a4]; exact hc⟩, xis_in a5, xis_in a6, xis_in a7⟩
      · cases h1
    · rename_i z; cases z
      split at h1
      · rename_i e p he hp
        simp only [Bool.and_eq_true, decide_eq_true_eq, Bool.not_eq_true', decide_eq_false_iff_not] at h1
        obtain ⟨⟨⟨⟨⟨a1, a1b⟩, a1c⟩, a3⟩, a5⟩, a6⟩ := h1
        refine ⟨xcode_in he a1 a1b a1c, ?_⟩
        rw [xent_met he]
        exact ⟨a3, xis_in a5, xis_in a6⟩
      · cases h1
    · rename_i z; cases z
      split at h1
      · rename_i e p he hp
        simp only [Bool.and_eq_true, decide_eq_true_eq, Bool.not_eq_true', decide_eq_false_iff_not] at h1
        obtain ⟨⟨⟨⟨⟨⟨⟨⟨a1, a1b⟩, a1c⟩, a2⟩, a3⟩, a5⟩, a6⟩, a7⟩, a8⟩ := h1
        refine ⟨xcode_in he a1 a1b a1c, ?_⟩
        rw [xent_met he]
        exact ⟨a3, a2, xis_in a5, a6, xis_in a7, a8⟩
      · cases h1
    · rename_i z; cases z
      split at h1
      · rename_i e p he hp
        simp only [Bool.and_eq_true, decide_eq_true_eq, Bool.not_eq_true', decide_eq_false_iff_not] at h1
        obtain ⟨⟨⟨⟨⟨⟨⟨⟨a1, a1b⟩, a1c⟩, a2⟩, a3⟩, a5⟩, a6⟩, a7⟩, a8⟩ := h1
        refine ⟨xcode_in he a1 a1b a1c, ?_⟩
        rw [xent_met he]
        exact ⟨a3, a2, ⟨"LateRows", a5⟩, a6, xis_in a7, a8⟩
      · cases h1
    · cases h1
  · cases h
