abbrev vwCl : List vw_C := [(RX1, TX1, 2), (RX2, TX2, 8), (RX3, TX3, 3), (RX4, TX4, 5), (RX5, TX5, 8), (RX6, TX6, 12), (RX7, TX7, 14), (RX8, TX8, 69)]
def xcn : List String := ["LateRowsLaw", "LateRows", "LateRows$Kinds", "LateRows$Printer", "LateRows$Reader", "LateRows$Sheets", "LateRows$Teller", "LateRows$Texts", "LateRows$Told", "LateRowsModel", "java/lang/Character", "java/lang/String", "java/lang/StringLatin1", "java/lang/StringUTF16", "jdk/internal/util/Preconditions"]
abbrev xEn : Type := xM × List (List (Nat × Instr)) × Nat × Nat × Bool
def xall_0 : List xEn := [((yL_law, cL_law, 4, (some .boolean)), tL_law, 0, 99, false), ((yX0_allows, cX0_allows, 2, (some .boolean)), tX0_allows, 2, 99, false), ((yX0_hasNumber, cX0_hasNumber, 1, (some .boolean)), tX0_hasNumber, 2, 99, false), ((yX0_rows, cX0_rows, 1, (some .int)), tX0_rows, 2, 99, false), ((yX0_shape, cX0_shape, 1, (some (.object "java/lang/String"))), tX0_shape, 2, 99, false), ((yX0_word, cX0_word, 1, (some (.object "java/lang/String"))), tX0_word, 2, 99, false), ((yX1_init, cX1_init, 1, none), tX1_init, 3, 0, true), ((yX1_writeBlank, cX1_writeBlank, 1, none), tX1_writeBlank, 3, 0, false), ((yX1_writeByte, cX1_writeByte, 2, none), tX1_writeByte, 3, 0, false), ((yX1_writeField, cX1_writeField, 4, none), tX1_writeField, 3, 0, false), ((yX1_writeNum, cX1_writeNum, 8, none), tX1_writeNum, 3, 0, false), ((yX1_writeNums, cX1_writeNums, 4, none), tX1_writeNums, 3, 0, false), ((yX1_writePart, cX1_writePart, 6, none), tX1_writePart, 3, 0, false), ((yX1_writeSign, cX1_writeSign, 2, none), tX1_writeSign, 3, 0, false), ((yX1_writeStream, cX1_writeStream, 5, none), tX1_writeStream, 3, 0, false), ((yX1_writeWord, cX1_writeWord, 3, none), tX1_writeWord, 3, 0, false), ((yX2_addByte, cX2_addByte, 2, (some .int)), tX2_addByte, 4, 1, false), ((yX2_init, cX2_init, 1, none), tX2_init, 4, 1, true), ((yX2_isSign, cX2_isSign, 2, (some .boolean)), tX2_isSign, 4, 1, false), ((yX2_isWord, cX2_isWord, 5, (some .boolean)), tX2_isWord, 4, 1, false), ((yX2_kindOfWord, cX2_kindOfWord, 4, (some .int)), tX2_kindOfWord, 4, 1, false), ((yX2_meaningOf, cX2_meaningOf, 6, (some .int)), tX2_meaningOf, 4, 1, false), ((yX2_miss, cX2_miss, 1, none), tX2_miss, 4, 1, false), ((yX2_readField, cX2_readField, 3, none), tX2_readField, 4, 1, false), ((yX2_readNum, cX2_readNum, 3, (some .int)), tX2_readNum, 4, 1, false), ((yX2_readNumber, cX2_readNumber, 4, (some .int)), tX2_readNumber, 4, 1, false), ((yX2_readNums, cX2_readNums, 4, none), tX2_readNums, 4, 1, false), ((yX2_readPart, cX2_readPart, 5, none), tX2_readPart, 4, 1, false), ((yX2_readSign, cX2_readSign, 3, (some .int)), tX2_readSign, 4, 1, false), ((yX2_readTape, cX2_readTape, 3, (some .int)), tX2_readTape, 4, 1, false), ((yX2_sortOf, cX2_sortOf, 1, (some .int)), tX2_sortOf, 4, 1, false), ((yX2_splitTape, cX2_splitTape, 6, none), tX2_splitTape, 4, 1, false)]
def xall_1 : List xEn := [((yX3_init, cX3_init, 2, none), tX3_init, 5, 2, true), ((yX3_isMissing, cX3_isMissing, 2, (some .boolean)), tX3_isMissing, 5, 2, false), ((yX3_move, cX3_move, 6, none), tX3_move, 5, 2, false), ((yX3_read, cX3_read, 3, (some .long)), tX3_read, 5, 2, false), ((yX3_renew, cX3_renew, 5, none), tX3_renew, 5, 2, false), ((yX3_spans, cX3_spans, 4, (some .boolean)), tX3_spans, 5, 2, false), ((yX3_write, cX3_write, 7, none), tX3_write, 5, 2, false), ((yX4_addUp, cX4_addUp, 7, (some .int)), tX4_addUp, 6, 3, false), ((yX4_askHead, cX4_askHead, 6, (some .int)), tX4_askHead, 6, 3, false), ((yX4_askPlace, cX4_askPlace, 6, (some .int)), tX4_askPlace, 6, 3, false), ((yX4_begin, cX4_begin, 3, none), tX4_begin, 6, 3, false), ((yX4_beginsRun, cX4_beginsRun, 1, (some .boolean)), tX4_beginsRun, 6, 3, false), ((yX4_behindNames, cX4_behindNames, 5, (some .int)), tX4_behindNames, 6, 3, false), ((yX4_combine, cX4_combine, 6, (some .int)), tX4_combine, 6, 3, false), ((yX4_firstUnlike, cX4_firstUnlike, 9, (some .int)), tX4_firstUnlike, 6, 3, false), ((yX4_gather, cX4_gather, 6, (some .int)), tX4_gather, 6, 3, false), ((yX4_init, cX4_init, 3, none), tX4_init, 6, 3, true), ((yX4_isThere, cX4_isThere, 3, (some .int)), tX4_isThere, 6, 3, false), ((yX4_mergePlace, cX4_mergePlace, 14, (some .int)), tX4_mergePlace, 6, 3, false), ((yX4_outcome, cX4_outcome, 4, (some .int)), tX4_outcome, 6, 3, false), ((yX4_passes, cX4_passes, 5, (some .int)), tX4_passes, 6, 3, false), ((yX4_passesOwnHeads, cX4_passesOwnHeads, 7, (some .int)), tX4_passesOwnHeads, 6, 3, false), ((yX4_placeOf, cX4_placeOf, 7, (some .int)), tX4_placeOf, 6, 3, false), ((yX4_rising, cX4_rising, 6, (some .int)), tX4_rising, 6, 3, false), ((yX4_seekPlace, cX4_seekPlace, 6, (some .int)), tX4_seekPlace, 6, 3, false), ((yX4_seeks, cX4_seeks, 2, (some .boolean)), tX4_seeks, 6, 3, false), ((yX4_tellHead, cX4_tellHead, 10, (some .int)), tX4_tellHead, 6, 3, false), ((yX4_tellNumber, cX4_tellNumber, 3, (some .int)), tX4_tellNumber, 6, 3, false), ((yX4_tellPlace, cX4_tellPlace, 6, (some .int)), tX4_tellPlace, 6, 3, false), ((yX5_allParts, cX5_allParts, 3, (some .int)), tX5_allParts, 7, 4, false), ((yX5_clearPart, cX5_clearPart, 3, none), tX5_clearPart, 7, 4, false), ((yX5_close, cX5_close, 8, none), tX5_close, 7, 4, false)]
def xall_2 : List xEn := [((yX5_filledStreams, cX5_filledStreams, 3, (some .int)), tX5_filledStreams, 7, 4, false), ((yX5_firstRow, cX5_firstRow, 2, (some .int)), tX5_firstRow, 7, 4, false), ((yX5_init, cX5_init, 3, none), tX5_init, 7, 4, true), ((yX5_secondRow, cX5_secondRow, 2, (some .int)), tX5_secondRow, 7, 4, false), ((yX5_takeAll, cX5_takeAll, 3, none), tX5_takeAll, 7, 4, false), ((yX5_takeParts, cX5_takeParts, 5, none), tX5_takeParts, 7, 4, false), ((yX5_takeStream, cX5_takeStream, 4, none), tX5_takeStream, 7, 4, false), ((yX6_allHeads, cX6_allHeads, 3, (some .int)), tX6_allHeads, 8, 5, false), ((yX6_allPlaces, cX6_allPlaces, 3, (some .int)), tX6_allPlaces, 8, 5, false), ((yX6_init, cX6_init, 3, none), tX6_init, 8, 5, true), ((yX6_meet, cX6_meet, 2, none), tX6_meet, 8, 5, false), ((yX6_takeAll, cX6_takeAll, 3, none), tX6_takeAll, 8, 5, false), ((yX6_takePart, cX6_takePart, 5, none), tX6_takePart, 8, 5, false), ((yX6_untell, cX6_untell, 2, none), tX6_untell, 8, 5, false), ((yX6_untellPart, cX6_untellPart, 4, none), tX6_untellPart, 8, 5, false), ((yX7_back, cX7_back, 1, (some .int)), tX7_back, 1, 6, false), ((yX7_copy, cX7_copy, 6, (some .int)), tX7_copy, 1, 6, false), ((yX7_count, cX7_count, 2, (some .int)), tX7_count, 1, 6, false), ((yX7_counted, cX7_counted, 2, (some .int)), tX7_counted, 1, 6, false), ((yX7_differ, cX7_differ, 4, (some .int)), tX7_differ, 1, 6, false), ((yX7_empty, cX7_empty, 3, (some .int)), tX7_empty, 1, 6, false), ((yX7_entry, cX7_entry, 5, (some .long)), tX7_entry, 1, 6, false), ((yX7_feed, cX7_feed, 2, (some .int)), tX7_feed, 1, 6, false), ((yX7_film, cX7_film, 7, (some .int)), tX7_film, 1, 6, false), ((yX7_find, cX7_find, 6, (some .int)), tX7_find, 1, 6, false), ((yX7_forget, cX7_forget, 2, (some .int)), tX7_forget, 1, 6, false), ((yX7_hasPart, cX7_hasPart, 3, (some .boolean)), tX7_hasPart, 1, 6, false), ((yX7_head, cX7_head, 3, (some .long)), tX7_head, 1, 6, false), ((yX7_image, cX7_image, 1, (some .int)), tX7_image, 1, 6, false), ((yX7_init, cX7_init, 1, none), tX7_init, 1, 6, true), ((yX7_is, cX7_is, 4, (some .int)), tX7_is, 1, 6, false), ((yX7_isEmpty, cX7_isEmpty, 2, (some .boolean)), tX7_isEmpty, 1, 6, false)]
def xall_3 : List xEn := [((yX7_isQuestion, cX7_isQuestion, 1, (some .boolean)), tX7_isQuestion, 1, 6, false), ((yX7_isSheet, cX7_isSheet, 1, (some .boolean)), tX7_isSheet, 1, 6, false), ((yX7_isStream, cX7_isStream, 1, (some .boolean)), tX7_isStream, 1, 6, false), ((yX7_isToldBy, cX7_isToldBy, 4, (some .boolean)), tX7_isToldBy, 1, 6, false), ((yX7_item, cX7_item, 3, (some .long)), tX7_item, 1, 6, false), ((yX7_lay, cX7_lay, 8, (some .int)), tX7_lay, 1, 6, false), ((yX7_limit, cX7_limit, 3, (some .int)), tX7_limit, 1, 6, false), ((yX7_need, cX7_need, 4, (some .int)), tX7_need, 1, 6, false), ((yX7_number, cX7_number, 4, (some .long)), tX7_number, 1, 6, false), ((yX7_part, cX7_part, 5, (some .int)), tX7_part, 1, 6, false), ((yX7_print, cX7_print, 3, (some .int)), tX7_print, 1, 6, false), ((yX7_put, cX7_put, 5, (some .int)), tX7_put, 1, 6, false), ((yX7_refusedPlace, cX7_refusedPlace, 3, (some .int)), tX7_refusedPlace, 1, 6, false), ((yX7_refusedRow, cX7_refusedRow, 4, (some .int)), tX7_refusedRow, 1, 6, false), ((yX7_rises, cX7_rises, 3, (some .int)), tX7_rises, 1, 6, false), ((yX7_sheet, cX7_sheet, 4, (some .int)), tX7_sheet, 1, 6, false), ((yX7_sum, cX7_sum, 4, (some .long)), tX7_sum, 1, 6, false), ((yX7_taken, cX7_taken, 5, (some .int)), tX7_taken, 1, 6, false), ((yX7_tellingNumbers, cX7_tellingNumbers, 10, (some .int)), tX7_tellingNumbers, 1, 6, false), ((yX7_tellingStreams, cX7_tellingStreams, 4, (some .int)), tX7_tellingStreams, 1, 6, false), ((yX7_tells, cX7_tells, 5, (some .int)), tX7_tells, 1, 6, false), ((yX7_text, cX7_text, 3, (some .int)), tX7_text, 1, 6, false), ((yX7_there, cX7_there, 4, (some .int)), tX7_there, 1, 6, false), ((yX7_twist, cX7_twist, 6, (some .int)), tX7_twist, 1, 6, false), ((yX8_back, cX8_back, 2, (some .int)), tX8_back, 9, 7, false), ((yX8_begins, cX8_begins, 2, none), tX8_begins, 9, 7, false), ((yX8_byteAt, cX8_byteAt, 2, (some .int)), tX8_byteAt, 9, 7, false), ((yX8_copy, cX8_copy, 9, (some .int)), tX8_copy, 9, 7, false), ((yX8_count, cX8_count, 4, (some .int)), tX8_count, 9, 7, false), ((yX8_cuts, cX8_cuts, 8, (some .int)), tX8_cuts, 9, 7, false), ((yX8_differ, cX8_differ, 11, (some .int)), tX8_differ, 9, 7, false), ((yX8_digits, cX8_digits, 10, none), tX8_digits, 9, 7, false)]
def xall_4 : List xEn := [((yX8_empty, cX8_empty, 3, (some .int)), tX8_empty, 9, 7, false), ((yX8_entry, cX8_entry, 4, (some .long)), tX8_entry, 9, 7, false), ((yX8_fail, cX8_fail, 1, none), tX8_fail, 9, 7, false), ((yX8_feed, cX8_feed, 2, (some .int)), tX8_feed, 9, 7, false), ((yX8_film, cX8_film, 7, (some .int)), tX8_film, 9, 7, false), ((yX8_find, cX8_find, 8, (some .int)), tX8_find, 9, 7, false), ((yX8_followed, cX8_followed, 5, (some .int)), tX8_followed, 9, 7, false), ((yX8_forget, cX8_forget, 2, (some .int)), tX8_forget, 9, 7, false), ((yX8_full, cX8_full, 3, (some .int)), tX8_full, 9, 7, false), ((yX8_gap, cX8_gap, 1, none), tX8_gap, 9, 7, false), ((yX8_groupOf, cX8_groupOf, 1, (some .int)), tX8_groupOf, 9, 7, false), ((yX8_head, cX8_head, 3, (some .long)), tX8_head, 9, 7, false), ((yX8_headAsked, cX8_headAsked, 6, (some .int)), tX8_headAsked, 9, 7, false), ((yX8_image, cX8_image, 2, (some .int)), tX8_image, 9, 7, false), ((yX8_in, cX8_in, 6, (some .boolean)), tX8_in, 9, 7, false), ((yX8_init, cX8_init, 1, none), tX8_init, 9, 7, true), ((yX8_is, cX8_is, 4, (some .int)), tX8_is, 9, 7, false), ((yX8_isFull, cX8_isFull, 2, (some .boolean)), tX8_isFull, 9, 7, false), ((yX8_isLetter, cX8_isLetter, 3, (some .boolean)), tX8_isLetter, 9, 7, false), ((yX8_isNumbered, cX8_isNumbered, 1, (some .boolean)), tX8_isNumbered, 9, 7, false), ((yX8_isPart, cX8_isPart, 3, (some .boolean)), tX8_isPart, 9, 7, false), ((yX8_isSheet, cX8_isSheet, 1, (some .boolean)), tX8_isSheet, 9, 7, false), ((yX8_isSign, cX8_isSign, 2, (some .boolean)), tX8_isSign, 9, 7, false), ((yX8_isSignByte, cX8_isSignByte, 1, (some .boolean)), tX8_isSignByte, 9, 7, false), ((yX8_isSo, cX8_isSo, 6, (some .boolean)), tX8_isSo, 9, 7, false), ((yX8_isStream, cX8_isStream, 1, (some .boolean)), tX8_isStream, 9, 7, false), ((yX8_isWord, cX8_isWord, 6, (some .boolean)), tX8_isWord, 9, 7, false), ((yX8_item, cX8_item, 3, (some .long)), tX8_item, 9, 7, false), ((yX8_joined, cX8_joined, 6, (some .int)), tX8_joined, 9, 7, false), ((yX8_keeps, cX8_keeps, 8, (some .int)), tX8_keeps, 9, 7, false), ((yX8_kindOf, cX8_kindOf, 1, (some .int)), tX8_kindOf, 9, 7, false), ((yX8_kindWord, cX8_kindWord, 3, none), tX8_kindWord, 9, 7, false)]
def xall_5 : List xEn := [((yX8_lay, cX8_lay, 8, (some .int)), tX8_lay, 9, 7, false), ((yX8_laysAside, cX8_laysAside, 2, none), tX8_laysAside, 9, 7, false), ((yX8_laysBack, cX8_laysBack, 2, none), tX8_laysBack, 9, 7, false), ((yX8_limit, cX8_limit, 3, (some .int)), tX8_limit, 9, 7, false), ((yX8_list, cX8_list, 2, none), tX8_list, 9, 7, false), ((yX8_merges, cX8_merges, 12, (some .int)), tX8_merges, 9, 7, false), ((yX8_need, cX8_need, 4, (some .int)), tX8_need, 9, 7, false), ((yX8_next, cX8_next, 3, none), tX8_next, 9, 7, false), ((yX8_num, cX8_num, 2, (some .long)), tX8_num, 9, 7, false), ((yX8_number, cX8_number, 3, (some .long)), tX8_number, 9, 7, false), ((yX8_op, cX8_op, 4, (some .int)), tX8_op, 9, 7, false), ((yX8_other, cX8_other, 2, (some .int)), tX8_other, 9, 7, false), ((yX8_outcome, cX8_outcome, 4, (some .int)), tX8_outcome, 9, 7, false), ((yX8_part, cX8_part, 5, (some .int)), tX8_part, 9, 7, false), ((yX8_passes, cX8_passes, 6, (some .int)), tX8_passes, 9, 7, false), ((yX8_place, cX8_place, 5, (some .int)), tX8_place, 9, 7, false), ((yX8_plain, cX8_plain, 5, (some .long)), tX8_plain, 9, 7, false), ((yX8_print, cX8_print, 3, (some .int)), tX8_print, 9, 7, false), ((yX8_prints, cX8_prints, 5, none), tX8_prints, 9, 7, false), ((yX8_put, cX8_put, 5, (some .int)), tX8_put, 9, 7, false), ((yX8_puts, cX8_puts, 2, none), tX8_puts, 9, 7, false), ((yX8_rises, cX8_rises, 7, (some .int)), tX8_rises, 9, 7, false), ((yX8_row, cX8_row, 3, none), tX8_row, 9, 7, false), ((yX8_sheet, cX8_sheet, 5, (some .int)), tX8_sheet, 9, 7, false), ((yX8_sieved, cX8_sieved, 7, (some .int)), tX8_sieved, 9, 7, false), ((yX8_sum, cX8_sum, 7, (some .long)), tX8_sum, 9, 7, false), ((yX8_taken, cX8_taken, 4, (some .int)), tX8_taken, 9, 7, false), ((yX8_tells, cX8_tells, 13, (some .int)), tX8_tells, 9, 7, false), ((yX8_tellsHead, cX8_tellsHead, 8, (some .int)), tX8_tellsHead, 9, 7, false), ((yX8_tellsPlace, cX8_tellsPlace, 7, (some .int)), tX8_tellsPlace, 9, 7, false), ((yX8_text, cX8_text, 5, (some .int)), tX8_text, 9, 7, false), ((yX8_there, cX8_there, 4, (some .int)), tX8_there, 9, 7, false)]
def xall_6 : List xEn := [((yX8_toldAll, cX8_toldAll, 5, (some .int)), tX8_toldAll, 9, 7, false), ((yX8_toldHeads, cX8_toldHeads, 4, (some .int)), tX8_toldHeads, 9, 7, false), ((yX8_twist, cX8_twist, 5, (some .int)), tX8_twist, 9, 7, false), ((yX8_untells, cX8_untells, 3, none), tX8_untells, 9, 7, false), ((yX8_word, cX8_word, 6, none), tX8_word, 9, 7, false), ((yJ0_charAt_5068e, cJ0_charAt_5068e, 2, (some .char)), tJ0_charAt_5068e, 11, 99, false), ((yJ0_checkBoundsBeginEnd_23922, cJ0_checkBoundsBeginEnd_23922, 3, none), tJ0_checkBoundsBeginEnd_23922, 11, 99, false), ((yJ0_checkIndex_df160, cJ0_checkIndex_df160, 2, none), tJ0_checkIndex_df160, 11, 99, false), ((yJ0_coder_7d493, cJ0_coder_7d493, 1, (some .byte)), tJ0_coder_7d493, 11, 99, false), ((yJ0_indexOf_0f7a4, cJ0_indexOf_0f7a4, 2, (some .int)), tJ0_indexOf_0f7a4, 11, 99, false), ((yJ0_indexOf_7cf53, cJ0_indexOf_7cf53, 3, (some .int)), tJ0_indexOf_7cf53, 11, 99, false), ((yJ0_isLatin1_aae02, cJ0_isLatin1_aae02, 1, (some .boolean)), tJ0_isLatin1_aae02, 11, 99, false), ((yJ0_length_8abf5, cJ0_length_8abf5, 1, (some .int)), tJ0_length_8abf5, 11, 99, false), ((yJ1_canEncode_9a6ad, cJ1_canEncode_9a6ad, 1, (some .boolean)), tJ1_canEncode_9a6ad, 12, 99, false), ((yJ1_charAt_3b067, cJ1_charAt_3b067, 2, (some .char)), tJ1_charAt_3b067, 12, 99, false), ((yJ1_indexOfChar_4cfef, cJ1_indexOfChar_4cfef, 6, (some .int)), tJ1_indexOfChar_4cfef, 12, 99, false), ((yJ1_indexOf_4cfef, cJ1_indexOf_4cfef, 4, (some .int)), tJ1_indexOf_4cfef, 12, 99, false), ((yJ2_charAt_3b067, cJ2_charAt_3b067, 2, (some .char)), tJ2_charAt_3b067, 13, 99, false), ((yJ2_checkBoundsBeginEnd_d044e, cJ2_checkBoundsBeginEnd_d044e, 3, none), tJ2_checkBoundsBeginEnd_d044e, 13, 99, false), ((yJ2_checkIndex_2214a, cJ2_checkIndex_2214a, 2, none), tJ2_checkIndex_2214a, 13, 99, false), ((yJ2_getChar_3b067, cJ2_getChar_3b067, 2, (some .char)), tJ2_getChar_3b067, 13, 99, false), ((yJ2_indexOfCharUnsafe_4cfef, cJ2_indexOfCharUnsafe_4cfef, 5, (some .int)), tJ2_indexOfCharUnsafe_4cfef, 13, 99, false), ((yJ2_indexOfChar_4cfef, cJ2_indexOfChar_4cfef, 4, (some .int)), tJ2_indexOfChar_4cfef, 13, 99, false), ((yJ2_indexOfSupplementary_4cfef, cJ2_indexOfSupplementary_4cfef, 7, (some .int)), tJ2_indexOfSupplementary_4cfef, 13, 99, false), ((yJ2_indexOf_4cfef, cJ2_indexOf_4cfef, 4, (some .int)), tJ2_indexOf_4cfef, 13, 99, false), ((yJ2_length_9d52b, cJ2_length_9d52b, 1, (some .int)), tJ2_length_9d52b, 13, 99, false), ((yJ3_checkFromToIndex_8c36e, cJ3_checkFromToIndex_8c36e, 4, (some .int)), tJ3_checkFromToIndex_8c36e, 14, 99, false), ((yJ3_checkIndex_8e157, cJ3_checkIndex_8e157, 3, (some .int)), tJ3_checkIndex_8e157, 14, 99, false), ((yJ11_highSurrogate_5068e, cJ11_highSurrogate_5068e, 1, (some .char)), tJ11_highSurrogate_5068e, 10, 99, false), ((yJ11_isValidCodePoint_9a6ad, cJ11_isValidCodePoint_9a6ad, 2, (some .boolean)), tJ11_isValidCodePoint_9a6ad, 10, 99, false), ((yJ11_lowSurrogate_5068e, cJ11_lowSurrogate_5068e, 1, (some .char)), tJ11_lowSurrogate_5068e, 10, 99, false)]
/-- the methods -/
def xent (M : Nat) : Option xEn := match M / 32 with
  | 0 => xall_0[M % 32]?
  | 1 => xall_1[M % 32]?
  | 2 => xall_2[M % 32]?
  | 3 => xall_3[M % 32]?
  | 4 => xall_4[M % 32]?
  | 5 => xall_5[M % 32]?
  | 6 => xall_6[M % 32]?
  | _ => none
def xlF : List (List (Nat × Nat × Nat × Nat)) := [[],
  [(104, 4, 0, 123), (115, 4, 1, 128), (140, 4, 3, 137), (118, 4, 5, 144), (130, 4, 6, 147), (143, 4, 7, 153), (94, 1, 0, 175), (253, 1, 1, 177), (159, 0, 0, 208), (156, 0, 1, 210), (121, 5, 0, 226), (124, 5, 1, 228), (127, 5, 2, 232), (187, 3, 3, 285), (179, 3, 4, 287), (261, 2, 0, 306), (236, 2, 1, 308), (10, 6, 0, 317), (19, 6, 1, 318), (28, 6, 2, 319), (35, 6, 3, 320), (39, 6, 4, 321), (47, 6, 5, 322), (54, 6, 6, 323), (58, 6, 7, 324), (62, 6, 8, 325), (65, 6, 9, 326), (68, 6, 10, 327), (72, 6, 11, 328), (76, 6, 12, 329), (79, 6, 13, 330)],
  [],
  [(19, 4, 0, 122), (28, 4, 1, 126), (65, 4, 2, 131), (31, 4, 3, 135), (68, 4, 4, 140), (78, 4, 6, 146), (81, 4, 7, 151), (11, 0, 0, 207), (15, 0, 1, 209)],
  [(49, 4, 1, 127), (95, 4, 2, 132), (74, 4, 3, 136), (109, 4, 4, 141), (126, 4, 6, 148), (118, 4, 7, 152), (14, 1, 0, 174), (20, 1, 1, 176), (24, 1, 2, 178), (28, 1, 3, 179), (31, 1, 4, 180), (34, 1, 5, 181), (37, 1, 6, 182), (40, 1, 7, 183)],
  [(9, 2, 0, 305), (15, 2, 1, 307), (18, 2, 2, 309)],
  [(96, 4, 0, 124), (69, 4, 1, 129), (108, 4, 2, 133), (94, 4, 3, 138), (128, 4, 4, 142), (102, 4, 6, 149), (135, 4, 7, 154), (41, 5, 0, 225), (91, 5, 1, 229), (47, 5, 2, 231), (50, 5, 3, 234), (115, 5, 4, 236), (125, 5, 5, 238), (80, 5, 6, 240), (87, 5, 7, 242), (122, 5, 8, 244), (22, 3, 0, 281), (26, 3, 1, 282), (9, 3, 2, 283), (15, 3, 3, 284), (18, 3, 4, 286)],
  [(9, 4, 0, 121), (15, 4, 1, 125), (18, 4, 2, 130), (21, 4, 3, 134), (24, 4, 4, 139), (27, 4, 5, 143), (30, 4, 6, 145), (33, 4, 7, 150)],
  [(15, 5, 0, 224), (19, 5, 1, 227), (22, 5, 2, 230), (25, 5, 3, 233), (29, 5, 4, 235), (32, 5, 5, 237), (35, 5, 6, 239), (39, 5, 7, 241), (43, 5, 8, 243), (46, 5, 9, 245), (49, 5, 10, 246), (9, 5, 11, 247)],
  [(13, 7, 1, 958), (17, 7, 2, 959), (20, 7, 3, 960), (23, 7, 4, 961), (26, 7, 5, 962), (30, 7, 6, 963), (33, 7, 7, 964), (36, 7, 8, 965), (39, 7, 9, 966), (42, 7, 10, 967), (45, 7, 11, 968), (48, 7, 12, 969), (52, 7, 13, 970), (55, 7, 14, 971), (58, 7, 15, 972), (61, 7, 16, 973), (64, 7, 17, 974), (67, 7, 18, 975), (183, 7, 19, 976), (186, 7, 20, 977), (196, 7, 21, 978), (193, 7, 22, 979), (211, 7, 23, 980), (218, 7, 24, 981), (222, 7, 25, 982), (248, 7, 26, 983), (70, 7, 27, 984), (73, 7, 28, 985), (76, 7, 29, 986), (79, 7, 30, 987), (82, 7, 31, 988), (85, 7, 32, 989), (88, 7, 33, 990), (91, 7, 34, 991), (298, 7, 35, 992), (326, 7, 36, 993), (329, 7, 37, 994), (351, 7, 38, 995), (378, 7, 39, 996), (94, 7, 40, 997), (97, 7, 41, 998), (100, 7, 42, 999), (103, 7, 43, 1000), (106, 7, 44, 1001), (109, 7, 45, 1002), (112, 7, 46, 1003), (115, 7, 47, 1004), (118, 7, 48, 1005), (121, 7, 49, 1006), (124, 7, 50, 1007), (127, 7, 51, 1008), (130, 7, 52, 1009), (133, 7, 53, 1010), (136, 7, 54, 1011), (139, 7, 55, 1012), (142, 7, 56, 1013), (145, 7, 57, 1014), (148, 7, 58, 1015), (151, 7, 59, 1016), (154, 7, 60, 1017), (157, 7, 61, 1018), (160, 7, 62, 1019), (416, 7, 63, 1020), (419, 7, 64, 1021), (163, 7, 65, 1022), (166, 7, 66, 1023), (169, 7, 67, 1024), (172, 7, 68, 1025)],
  [],
  [],
  [],
  [],
  []]
def xlP : List (List (Nat × Nat × Nat × FieldType × Bool × Nat)) := [[],
  [(104, 4, 0, (.array .int), true, 123), (115, 4, 1, (.array .int), true, 128), (140, 4, 3, (.array .int), true, 137), (118, 4, 5, (.array .int), true, 144), (130, 4, 6, (.array .int), true, 147), (143, 4, 7, (.array .long), true, 153), (94, 1, 0, (.object "LateRows$Texts"), true, 175), (253, 1, 1, .int, false, 177), (159, 0, 0, (.array .int), true, 208), (156, 0, 1, .int, false, 210), (121, 5, 0, (.array .int), true, 226), (124, 5, 1, (.array .int), true, 228), (127, 5, 2, (.array .int), true, 232), (187, 3, 3, .int, false, 285), (179, 3, 4, .long, false, 287), (261, 2, 0, (.array .int), true, 306), (236, 2, 1, (.array .int), true, 308), (10, 6, 0, (.object "LateRows$Reader"), true, 317), (19, 6, 1, (.object "LateRows$Printer"), true, 318), (28, 6, 2, (.object "LateRows$Texts"), true, 319), (35, 6, 3, (.object "LateRows$Told"), true, 320), (39, 6, 4, (.object "LateRows$Told"), true, 321), (47, 6, 5, (.object "LateRows$Teller"), true, 322), (54, 6, 6, (.object "LateRows$Sheets"), true, 323), (58, 6, 7, (.array .long), true, 324), (62, 6, 8, (.object "LateRows$Texts"), true, 325), (65, 6, 9, (.object "LateRows$Told"), true, 326), (68, 6, 10, .int, false, 327), (72, 6, 11, .boolean, false, 328), (76, 6, 12, .int, false, 329), (79, 6, 13, .int, false, 330)],
  [],
  [(19, 4, 0, (.array .int), true, 122), (28, 4, 1, (.array .int), true, 126), (65, 4, 2, (.array .int), true, 131), (31, 4, 3, (.array .int), true, 135), (68, 4, 4, (.array .int), true, 140), (78, 4, 6, (.array .int), true, 146), (81, 4, 7, (.array .long), true, 151), (11, 0, 0, (.array .int), true, 207), (15, 0, 1, .int, false, 209)],
  [(49, 4, 1, (.array .int), true, 127), (95, 4, 2, (.array .int), true, 132), (74, 4, 3, (.array .int), true, 136), (109, 4, 4, (.array .int), true, 141), (126, 4, 6, (.array .int), true, 148), (118, 4, 7, (.array .long), true, 152), (14, 1, 0, (.object "LateRows$Texts"), true, 174), (20, 1, 1, .int, false, 176), (24, 1, 2, (.array .int), true, 178), (28, 1, 3, (.array .int), true, 179), (31, 1, 4, (.array .int), true, 180), (34, 1, 5, (.array .int), true, 181), (37, 1, 6, .int, false, 182), (40, 1, 7, .int, false, 183)],
  [(9, 2, 0, (.array .int), true, 305), (15, 2, 1, (.array .int), true, 307), (18, 2, 2, (.array .long), true, 309)],
  [(96, 4, 0, (.array .int), true, 124), (69, 4, 1, (.array .int), true, 129), (108, 4, 2, (.array .int), true, 133), (94, 4, 3, (.array .int), true, 138), (128, 4, 4, (.array .int), true, 142), (102, 4, 6, (.array .int), true, 149), (135, 4, 7, (.array .long), true, 154), (41, 5, 0, (.array .int), true, 225), (91, 5, 1, (.array .int), true, 229), (47, 5, 2, (.array .int), true, 231), (50, 5, 3, (.array .boolean), true, 234), (115, 5, 4, (.array .int), true, 236), (125, 5, 5, (.array .int), true, 238), (80, 5, 6, (.array .byte), true, 240), (87, 5, 7, (.array .long), true, 242), (122, 5, 8, (.array .byte), true, 244), (22, 3, 0, (.object "LateRows$Texts"), true, 281), (26, 3, 1, (.object "LateRows$Told"), false, 282), (9, 3, 2, .int, false, 283), (15, 3, 3, .int, false, 284), (18, 3, 4, .long, false, 286)],
  [(9, 4, 0, (.array .int), true, 121), (15, 4, 1, (.array .int), true, 125), (18, 4, 2, (.array .int), true, 130), (21, 4, 3, (.array .int), true, 134), (24, 4, 4, (.array .int), true, 139), (27, 4, 5, (.array .int), true, 143), (30, 4, 6, (.array .int), true, 145), (33, 4, 7, (.array .long), true, 150)],
  [(15, 5, 0, (.array .int), true, 224), (19, 5, 1, (.array .int), true, 227), (22, 5, 2, (.array .int), true, 230), (25, 5, 3, (.array .boolean), true, 233), (29, 5, 4, (.array .int), true, 235), (32, 5, 5, (.array .int), true, 237), (35, 5, 6, (.array .byte), true, 239), (39, 5, 7, (.array .long), true, 241), (43, 5, 8, (.array .byte), true, 243), (46, 5, 9, (.array .boolean), true, 245), (49, 5, 10, (.array .int), true, 246), (9, 5, 11, .int, false, 247)],
  [(13, 7, 1, (.array .int), true, 958), (17, 7, 2, (.array .int), true, 959), (20, 7, 3, (.array .int), true, 960), (23, 7, 4, (.array .int), true, 961), (26, 7, 5, (.array .long), true, 962), (30, 7, 6, (.array .long), true, 963), (33, 7, 7, (.array .int), true, 964), (36, 7, 8, (.array .long), true, 965), (39, 7, 9, .int, false, 966), (42, 7, 10, (.array .int), true, 967), (45, 7, 11, (.array .int), true, 968), (48, 7, 12, (.array .boolean), true, 969), (52, 7, 13, (.array .int), true, 970), (55, 7, 14, (.array .int), true, 971), (58, 7, 15, (.array .int), true, 972), (61, 7, 16, (.array .long), true, 973), (64, 7, 17, (.array .int), true, 974), (67, 7, 18, (.array .int), true, 975), (183, 7, 19, .int, false, 976), (186, 7, 20, .int, false, 977), (196, 7, 21, .int, false, 978), (193, 7, 22, .int, false, 979), (211, 7, 23, .int, false, 980), (218, 7, 24, .boolean, false, 981), (222, 7, 25, .int, false, 982), (248, 7, 26, .int, false, 983), (70, 7, 27, (.array .int), true, 984), (73, 7, 28, (.array .int), true, 985), (76, 7, 29, (.array .int), true, 986), (79, 7, 30, (.array .long), true, 987), (82, 7, 31, (.array .long), true, 988), (85, 7, 32, (.array .int), true, 989), (88, 7, 33, (.array .long), true, 990), (91, 7, 34, (.array .int), true, 991), (298, 7, 35, .int, false, 992), (326, 7, 36, .int, false, 993), (329, 7, 37, .int, false, 994), (351, 7, 38, .long, false, 995), (378, 7, 39, .int, false, 996), (94, 7, 40, (.array .int), true, 997), (97, 7, 41, (.array .int), true, 998), (100, 7, 42, (.array .int), true, 999), (103, 7, 43, (.array .int), true, 1000), (106, 7, 44, (.array .int), true, 1001), (109, 7, 45, (.array .long), true, 1002), (112, 7, 46, (.array .int), true, 1003), (115, 7, 47, (.array .long), true, 1004), (118, 7, 48, (.array .int), true, 1005), (121, 7, 49, (.array .int), true, 1006), (124, 7, 50, (.array .int), true, 1007), (127, 7, 51, (.array .int), true, 1008), (130, 7, 52, (.array .long), true, 1009), (133, 7, 53, (.array .long), true, 1010), (136, 7, 54, (.array .int), true, 1011), (139, 7, 55, (.array .long), true, 1012), (142, 7, 56, (.array .int), true, 1013), (145, 7, 57, (.array .int), true, 1014), (148, 7, 58, (.array .int), true, 1015), (151, 7, 59, (.array .int), true, 1016), (154, 7, 60, (.array .int), true, 1017), (157, 7, 61, (.array .long), true, 1018), (160, 7, 62, (.array .int), true, 1019), (416, 7, 63, .int, false, 1020), (419, 7, 64, .boolean, false, 1021), (163, 7, 65, (.array .boolean), true, 1022), (166, 7, 66, (.array .int), true, 1023), (169, 7, 67, (.array .int), true, 1024), (172, 7, 68, (.array .long), true, 1025)],
  [],
  [],
  [],
  [],
  []]
def xlM : List (List (Nat × Nat × Nat × Nat × Nat × Nat)) := [[(9, 4, 93, 1, 6, 103), (13, 0, 86, 2, 6, 360), (18, 0, 117, 2, 6, 368), (22, 0, 84, 2, 6, 600), (26, 0, 105, 4, 6, 604), (31, 0, 104, 3, 6, 616), (36, 0, 85, 4, 6, 624), (41, 0, 119, 4, 6, 628), (45, 0, 113, 4, 6, 635), (49, 0, 106, 3, 6, 640), (54, 0, 118, 3, 6, 686), (58, 0, 94, 3, 6, 773), (62, 0, 91, 3, 6, 781), (66, 0, 103, 3, 6, 785), (70, 0, 102, 2, 6, 800), (74, 0, 89, 1, 6, 804), (79, 0, 112, 3, 6, 816), (85, 0, 88, 4, 6, 826), (90, 0, 83, 4, 6, 834), (94, 0, 110, 2, 6, 842), (98, 0, 87, 4, 6, 850), (102, 0, 116, 4, 6, 869), (106, 0, 92, 1, 6, 896), (110, 0, 79, 1, 6, 909), (114, 0, 81, 2, 6, 913), (118, 0, 111, 4, 6, 921), (122, 0, 107, 4, 6, 925), (127, 0, 100, 3, 6, 933), (131, 0, 80, 6, 6, 937), (136, 0, 101, 6, 6, 946), (12, 4, 143, 1, 7, 954), (17, 0, 131, 2, 7, 1165), (21, 0, 190, 2, 7, 1173), (25, 0, 128, 2, 7, 1241), (30, 0, 173, 4, 7, 1245), (35, 0, 169, 3, 7, 1258), (40, 0, 129, 4, 7, 1267), (44, 0, 194, 4, 7, 1271), (48, 0, 186, 4, 7, 1278), (53, 0, 177, 3, 7, 1286), (57, 0, 191, 3, 7, 1315), (61, 0, 144, 3, 7, 1372), (65, 0, 139, 3, 7, 1380), (73, 0, 163, 2, 7, 1385), (78, 0, 135, 1, 7, 1390), (82, 0, 185, 3, 7, 1398), (89, 0, 133, 4, 7, 1407), (93, 0, 126, 4, 7, 1411), (97, 0, 181, 2, 7, 1415), (69, 0, 166, 3, 7, 1419), (101, 0, 132, 4, 7, 1431), (105, 0, 187, 4, 7, 1444), (109, 0, 141, 1, 7, 1452), (113, 0, 120, 1, 7, 1460), (117, 0, 124, 2, 7, 1464), (121, 0, 183, 4, 7, 1469), (126, 0, 179, 4, 7, 1470), (130, 0, 155, 3, 7, 1474), (135, 0, 123, 6, 7, 1478), (139, 0, 160, 6, 7, 1482)],
  [(1, 6, 0, 0, 0, 106), (9, 5, 17, 1, 1, 111), (18, 5, 6, 1, 0, 203), (25, 4, 66, 2, 4, 217), (34, 4, 73, 2, 5, 220), (44, 4, 48, 3, 3, 277), (53, 4, 32, 1, 2, 301), (82, 0, 16, 2, 1, 364), (86, 1, 98, 1, 0, 372), (90, 0, 29, 1, 1, 375), (97, 0, 70, 4, 4, 581), (101, 0, 77, 1, 5, 592), (108, 0, 95, 2, 6, 608), (111, 0, 90, 3, 6, 612), (135, 1, 2, 1, 0, 621), (146, 1, 1, 2, 0, 632), (149, 1, 3, 1, 0, 639), (152, 0, 14, 3, 0, 644), (162, 0, 108, 3, 6, 690), (196, 0, 109, 4, 6, 694), (166, 0, 42, 3, 3, 698), (170, 0, 49, 3, 3, 702), (173, 0, 82, 2, 6, 769), (176, 0, 51, 3, 3, 777), (183, 0, 75, 2, 5, 789), (190, 0, 72, 1, 5, 808), (193, 0, 71, 1, 5, 812), (200, 0, 39, 3, 3, 820), (205, 0, 54, 4, 3, 830), (209, 0, 46, 4, 3, 838), (212, 0, 55, 2, 3, 846), (215, 1, 97, 1, 0, 854), (218, 0, 47, 4, 3, 857), (222, 0, 36, 4, 2, 861), (226, 0, 38, 4, 2, 865), (230, 1, 96, 1, 0, 873), (233, 0, 33, 2, 2, 876), (237, 0, 115, 2, 6, 880), (275, 0, 99, 3, 6, 884), (258, 0, 35, 3, 2, 888), (240, 0, 114, 5, 6, 892), (244, 0, 68, 2, 4, 900), (247, 0, 64, 1, 4, 905), (250, 0, 61, 1, 4, 917), (254, 0, 37, 4, 2, 929), (264, 0, 34, 6, 2, 941), (268, 0, 62, 3, 4, 950), (272, 0, 63, 3, 4, 951)],
  [],
  [(3, 6, 0, 0, 0, 206), (24, 0, 12, 3, 0, 648), (34, 0, 13, 2, 0, 652), (85, 0, 7, 1, 0, 656), (88, 0, 8, 2, 0, 660), (38, 1, 5, 1, 0, 664), (44, 0, 15, 2, 0, 665), (51, 0, 204, 1, 98, 669), (57, 0, 197, 2, 98, 670), (48, 1, 4, 1, 0, 671), (61, 0, 9, 4, 0, 672), (71, 0, 10, 2, 0, 676), (75, 0, 11, 3, 0, 682)],
  [(3, 6, 0, 0, 0, 114), (11, 4, 66, 2, 4, 117), (43, 0, 31, 1, 1, 379), (132, 1, 30, 1, 0, 383), (129, 0, 201, 2, 98, 387), (135, 0, 21, 4, 1, 473), (141, 0, 20, 3, 1, 477), (144, 1, 5, 1, 0, 481), (147, 0, 19, 4, 1, 498), (81, 0, 204, 1, 98, 502), (87, 0, 197, 2, 98, 503), (46, 0, 27, 2, 1, 523), (65, 8, 0, 0, 0, 527), (71, 0, 62, 3, 4, 528), (58, 0, 22, 1, 1, 532), (77, 1, 4, 1, 0, 536), (91, 0, 23, 3, 1, 547), (100, 0, 28, 2, 1, 552), (106, 0, 24, 1, 1, 557), (122, 0, 18, 2, 1, 561), (112, 0, 25, 3, 1, 565), (115, 0, 26, 2, 1, 569), (52, 1, 3, 1, 0, 573), (61, 0, 63, 3, 4, 576)],
  [(3, 6, 0, 0, 0, 304), (22, 7, 0, 0, 0, 945)],
  [(3, 6, 0, 0, 0, 280), (30, 0, 41, 3, 3, 706), (37, 0, 44, 2, 3, 710), (54, 0, 43, 1, 3, 714), (58, 0, 74, 2, 5, 718), (62, 0, 57, 2, 3, 722), (66, 0, 56, 3, 3, 726), (99, 0, 65, 2, 4, 730), (34, 0, 40, 3, 3, 734), (84, 0, 58, 3, 3, 738), (131, 0, 59, 2, 3, 742), (138, 0, 45, 4, 3, 746), (105, 0, 67, 2, 4, 750), (111, 1, 52, 3, 0, 754), (118, 0, 53, 4, 3, 757), (74, 0, 50, 3, 3, 761), (77, 0, 60, 3, 3, 765), (142, 0, 51, 3, 3, 824)],
  [(3, 6, 0, 0, 0, 120), (37, 1, 3, 1, 0, 580), (43, 0, 69, 5, 4, 585), (51, 7, 0, 0, 0, 589), (47, 0, 70, 4, 4, 904)],
  [(3, 6, 0, 0, 0, 223), (52, 0, 78, 2, 5, 596), (56, 0, 77, 1, 5, 793), (59, 0, 76, 3, 5, 794), (63, 0, 74, 2, 5, 798), (66, 7, 0, 0, 0, 799)],
  [(7, 6, 0, 0, 0, 957), (177, 1, 142, 3, 0, 1170), (266, 1, 153, 1, 0, 1177), (238, 0, 167, 1, 7, 1181), (189, 0, 122, 2, 7, 1185), (203, 0, 158, 1, 7, 1191), (231, 0, 154, 6, 7, 1196), (225, 0, 146, 3, 7, 1200), (214, 1, 151, 1, 0, 1206), (263, 0, 182, 1, 7, 1209), (245, 0, 130, 1, 7, 1213), (251, 0, 170, 2, 7, 1217), (235, 0, 150, 2, 7, 1221), (255, 0, 168, 1, 7, 1225), (241, 0, 176, 3, 7, 1229), (259, 0, 164, 2, 7, 1233), (269, 0, 195, 1, 7, 1237), (276, 0, 148, 3, 7, 1250), (279, 0, 193, 2, 7, 1254), (282, 1, 147, 1, 0, 1262), (295, 1, 138, 1, 0, 1283), (320, 0, 178, 2, 7, 1290), (313, 0, 159, 2, 7, 1294), (309, 0, 196, 6, 7, 1298), (304, 0, 137, 1, 7, 1302), (301, 0, 180, 2, 7, 1306), (316, 0, 127, 2, 7, 1310), (375, 0, 121, 2, 7, 1320), (342, 0, 175, 3, 7, 1324), (323, 0, 134, 2, 7, 1328), (332, 0, 189, 3, 7, 1332), (336, 0, 157, 3, 7, 1336), (348, 0, 140, 3, 7, 1340), (363, 0, 188, 3, 7, 1344), (366, 0, 125, 3, 7, 1348), (345, 0, 171, 2, 7, 1352), (369, 0, 156, 4, 7, 1356), (355, 0, 174, 3, 7, 1360), (359, 0, 184, 4, 7, 1364), (339, 0, 165, 3, 7, 1368), (381, 0, 172, 3, 7, 1376), (384, 0, 144, 3, 7, 1384), (389, 0, 192, 2, 7, 1394), (392, 0, 145, 2, 7, 1402), (397, 0, 161, 1, 7, 1423), (400, 0, 162, 1, 7, 1427), (403, 1, 149, 1, 0, 1435), (408, 0, 183, 4, 7, 1439), (412, 0, 152, 4, 7, 1448), (422, 0, 136, 1, 7, 1456)],
  [],
  [(633, 0, 202, 3, 98, 391), (492, 0, 203, 1, 98, 395), (505, 0, 204, 1, 98, 401), (335, 0, 200, 1, 98, 405), (637, 1, 208, 4, 0, 409), (640, 1, 216, 4, 0, 424), (1062, 1, 218, 4, 0, 444), (495, 1, 206, 2, 0, 507), (1059, 1, 219, 3, 0, 513), (498, 1, 209, 2, 0, 516)],
  [(88, 1, 205, 1, 0, 412), (92, 8, 0, 0, 0, 415), (38, 9, 0, 0, 0, 418), (95, 1, 207, 4, 0, 421), (9, 1, 199, 2, 0, 510)],
  [(224, 8, 0, 0, 0, 427), (183, 9, 0, 0, 0, 428), (228, 1, 214, 4, 0, 430), (96, 1, 210, 3, 0, 433), (48, 1, 217, 1, 0, 436), (241, 1, 198, 3, 0, 439), (244, 1, 213, 4, 0, 447), (71, 1, 212, 2, 0, 450), (232, 1, 215, 4, 0, 459), (164, 1, 221, 1, 0, 462), (157, 1, 220, 1, 0, 465), (161, 1, 222, 1, 0, 469), (67, 1, 211, 2, 0, 519), (414, 1, 199, 2, 0, 522)],
  []]
def xlC : List (List (Nat × Nat × Nat)) := [[(7, 6, 101), (10, 7, 952)],
  [(7, 1, 109), (16, 0, 201), (23, 4, 216), (32, 5, 218), (42, 3, 275), (51, 2, 299)],
  [],
  [],
  [(9, 4, 115)],
  [],
  [],
  [],
  [],
  [],
  [],
  [],
  [],
  [],
  []]
def xlV : List (List (Nat × Value × Nat)) := [[(83, .long (4294967295), 1487)],
  [(133, .long (-4611686018427387904), 620), (203, .long (-6), 825)],
  [],
  [(91, .long (-10), 680), (93, .long (10), 681)],
  [],
  [],
  [],
  [],
  [],
  [(181, .long (255), 1169), (175, .long (7), 1180), (199, .long (97), 1189), (201, .long (122), 1190), (229, .long (104), 1195), (207, .long (48), 1204), (209, .long (57), 1205), (274, .long (5), 1249), (272, .long (3), 1265), (285, .long (-4611686018427387904), 1266), (287, .long (-9999), 1275), (289, .long (9999), 1276), (291, .long (9), 1277), (293, .long (2), 1282), (307, .long (10), 1314), (373, .long (63), 1319), (387, .long (99), 1389), (395, .long (64), 1406), (406, .long (16), 1438), (427, .long (-1), 1443), (425, .long (6), 1468), (429, .long (8), 1486)],
  [(110, .int (55232), 468), (76, .int (56320), 472)],
  [],
  [],
  [(227, .int (65536), 429)],
  []]
def xlS : List (List (Nat × Nat)) := [[], [], [(9, 1), (11, 2), (13, 3), (15, 4), (17, 5), (19, 6), (21, 7), (23, 8), (25, 9), (27, 10), (29, 11), (31, 12), (33, 13), (35, 14), (37, 15), (39, 16), (41, 17), (43, 18), (45, 19), (47, 20), (49, 21), (51, 22)], [], [(139, 0), (98, 23), (104, 24)], [], [], [], [], [], [], [], [], [], []]
def xlX : List (List (Nat × Nat × Nat)) := [[], [], [], [], [], [], [], [], [], [], [], [(15, 1, 1488), (9, 0, 1489)], [], [], []]
def xlZ : List (List (Nat × Value × Nat)) := [[], [], [], [], [], [], [], [], [], [], [], [(38, .int 1, 399), (1053, .retAddr 1000, 442)], [], [], []]
/-- the constant texts, byte by byte -/
def xbyt : List (List Int32) := [[43, 45, 42, 47, 37, 60, 62, 61, 44], [102, 114, 111, 109], [108, 105, 115, 116], [109, 97, 112], [107, 101, 101, 112], [119, 104, 105, 108, 101], [122, 105, 112], [109, 101, 114, 103, 101], [116, 97, 107, 101], [100, 114, 111, 112], [115, 99, 97, 110], [115, 105, 101, 118, 101], [99, 111, 110, 115], [99, 117, 116], [], [110, 115], [108], [111, 110], [116, 110], [111], [100], [110], [99], [43, 45, 42, 47, 37], [60, 62, 61, 37]]
def xrs : List (String × Nat × String × Nat) := [("LateRows$Reader", 139, "+-*/%<>=,", 0), ("LateRows$Kinds", 9, "from", 1), ("LateRows$Kinds", 11, "list", 2), ("LateRows$Kinds", 13, "map", 3), ("LateRows$Kinds", 15, "keep", 4), ("LateRows$Kinds", 17, "while", 5), ("LateRows$Kinds", 19, "zip", 6), ("LateRows$Kinds", 21, "merge", 7), ("LateRows$Kinds", 23, "take", 8), ("LateRows$Kinds", 25, "drop", 9), ("LateRows$Kinds", 27, "scan", 10), ("LateRows$Kinds", 29, "sieve", 11), ("LateRows$Kinds", 31, "cons", 12), ("LateRows$Kinds", 33, "cut", 13), ("LateRows$Kinds", 35, "", 14), ("LateRows$Kinds", 37, "ns", 15), ("LateRows$Kinds", 39, "l", 16), ("LateRows$Kinds", 41, "on", 17), ("LateRows$Kinds", 43, "tn", 18), ("LateRows$Kinds", 45, "o", 19), ("LateRows$Kinds", 47, "d", 20), ("LateRows$Kinds", 49, "n", 21), ("LateRows$Kinds", 51, "c", 22), ("LateRows$Reader", 98, "+-*/%", 23), ("LateRows$Reader", 104, "<>=%", 24)]
def xdf : List (List Value) := [[.null, .int 0],
  [.null, .int 0, .null, .null, .null, .null, .int 0, .int 0],
  [.null, .null, .null],
  [.null, .null, .int 0, .int 0, .long 0],
  [.null, .null, .null, .null, .null, .null, .null, .null],
  [.null, .null, .null, .null, .null, .null, .null, .null, .null, .null, .null, .int 0],
  [.null, .null, .null, .null, .null, .null, .null, .null, .null, .null, .int 0, .int 0, .int 0, .int 0],
  [.int 0, .null, .null, .null, .null, .null, .null, .null, .null, .int 0, .null, .null, .null, .null, .null, .null, .null, .null, .null, .int 0, .int 0, .int 0, .int 0, .int 0, .int 0, .int 0, .int 0, .null, .null, .null, .null, .null, .null, .null, .null, .int 0, .int 0, .int 0, .long 0, .int 0, .null, .null, .null, .null, .null, .null, .null, .null, .null, .null, .null, .null, .null, .null, .null, .null, .null, .null, .null, .null, .null, .null, .null, .int 0, .int 0, .null, .null, .null, .null]]
def xpl_0 : List (Nat × Nat × Nat × Nat) := [(9999, 84, 9999, 9999), (634, 99, 633, 9999), (623, 99, 622, 9999), (575, 99, 574, 9999), (538, 99, 537, 9999), (483, 99, 482, 9999), (205, 88, 204, 9999), (659, 88, 658, 18), (663, 88, 662, 19), (675, 88, 674, 21), (679, 88, 678, 22), (685, 88, 684, 23), (651, 88, 650, 16), (655, 88, 654, 17), (647, 88, 645, 646), (668, 88, 667, 20), (367, 86, 365, 366), (113, 86, 112, 9999), (564, 86, 563, 9), (501, 86, 500, 3), (480, 86, 479, 2), (476, 86, 475, 1), (535, 86, 534, 5), (550, 86, 549, 6), (560, 86, 559, 8), (568, 86, 567, 10), (572, 86, 571, 11), (526, 86, 525, 4), (555, 86, 554, 7), (378, 86, 376, 377), (385, 86, 384, 9999), (382, 86, 381, 0)]
def xpl_1 : List (Nat × Nat × Nat × Nat) := [(303, 91, 302, 9999), (879, 91, 877, 878), (944, 91, 942, 943), (891, 91, 889, 890), (864, 91, 862, 863), (932, 91, 930, 931), (868, 91, 866, 867), (823, 90, 821, 822), (737, 90, 736, 31), (709, 90, 708, 26), (701, 90, 699, 700), (717, 90, 716, 28), (713, 90, 712, 27), (749, 90, 748, 34), (841, 90, 839, 840), (860, 90, 858, 859), (279, 90, 278, 9999), (705, 90, 703, 704), (764, 90, 763, 36), (780, 90, 778, 779), (756, 90, 755, 9999), (760, 90, 759, 35), (833, 90, 831, 832), (849, 90, 847, 848), (729, 90, 728, 30), (725, 90, 724, 29), (741, 90, 740, 32), (745, 90, 744, 33), (768, 90, 767, 37), (920, 87, 918, 919), (531, 87, 529, 530), (579, 87, 577, 578)]
def xpl_2 : List (Nat × Nat × Nat × Nat) := [(908, 87, 906, 907), (733, 87, 731, 732), (119, 87, 118, 9999), (753, 87, 751, 752), (903, 87, 901, 902), (588, 87, 587, 12), (584, 87, 582, 583), (815, 89, 813, 814), (811, 89, 809, 810), (222, 89, 221, 9999), (721, 89, 719, 720), (792, 89, 790, 791), (797, 89, 796, 39), (595, 89, 593, 594), (599, 89, 598, 13), (912, 85, 910, 911), (940, 85, 938, 939), (916, 85, 914, 915), (772, 85, 771, 38), (837, 85, 835, 836), (603, 85, 601, 602), (627, 85, 625, 626), (363, 85, 361, 362), (853, 85, 851, 852), (829, 85, 827, 828), (807, 85, 805, 806), (615, 85, 614, 15), (784, 85, 782, 783), (899, 85, 897, 898), (105, 85, 104, 9999), (776, 85, 774, 775), (611, 85, 610, 14)]
def xpl_3 : List (Nat × Nat × Nat × Nat) := [(875, 85, 874, 9999), (856, 85, 855, 9999), (374, 85, 373, 9999), (887, 85, 886, 41), (936, 85, 934, 935), (949, 85, 947, 948), (803, 85, 801, 802), (788, 85, 786, 787), (619, 85, 617, 618), (607, 85, 605, 606), (643, 85, 641, 642), (928, 85, 926, 927), (693, 85, 692, 24), (697, 85, 696, 25), (845, 85, 843, 844), (924, 85, 922, 923), (819, 85, 817, 818), (638, 85, 636, 637), (895, 85, 894, 42), (883, 85, 882, 40), (872, 85, 870, 871), (371, 85, 369, 370), (689, 85, 687, 688), (631, 85, 629, 630), (1463, 92, 1461, 1462), (1323, 92, 1322, 64), (1188, 92, 1187, 44), (1481, 92, 1479, 1480), (1467, 92, 1465, 1466), (1351, 92, 1350, 71), (1414, 92, 1412, 1413), (1313, 92, 1312, 63)]
def xpl_4 : List (Nat × Nat × Nat × Nat) := [(1244, 92, 1242, 1243), (1270, 92, 1268, 1269), (1216, 92, 1215, 49), (1168, 92, 1166, 1167), (1434, 92, 1432, 1433), (1410, 92, 1408, 1409), (1331, 92, 1330, 66), (1393, 92, 1391, 1392), (1459, 92, 1458, 83), (1305, 92, 1304, 61), (1285, 92, 1284, 9999), (1383, 92, 1381, 1382), (1343, 92, 1342, 69), (1455, 92, 1453, 1454), (1172, 92, 1171, 9999), (956, 92, 955, 9999), (1375, 92, 1373, 1374), (1405, 92, 1404, 79), (1203, 92, 1202, 47), (1264, 92, 1263, 9999), (1253, 92, 1252, 56), (1437, 92, 1436, 9999), (1224, 92, 1223, 51), (1208, 92, 1207, 9999), (1451, 92, 1450, 82), (1179, 92, 1178, 9999), (1199, 92, 1198, 46), (1477, 92, 1475, 1476), (1359, 92, 1358, 73), (1339, 92, 1338, 68), (1194, 92, 1193, 45), (1297, 92, 1296, 59)]
def xpl_5 : List (Nat × Nat × Nat × Nat) := [(1485, 92, 1483, 1484), (1426, 92, 1425, 80), (1430, 92, 1429, 81), (1388, 92, 1386, 1387), (1236, 92, 1235, 54), (1371, 92, 1370, 76), (1422, 92, 1420, 1421), (1184, 92, 1183, 43), (1228, 92, 1227, 52), (1261, 92, 1259, 1260), (1220, 92, 1219, 50), (1355, 92, 1354, 72), (1379, 92, 1378, 77), (1248, 92, 1246, 1247), (1363, 92, 1362, 74), (1327, 92, 1326, 65), (1232, 92, 1231, 53), (1289, 92, 1287, 1288), (1293, 92, 1292, 58), (1473, 92, 1471, 1472), (1309, 92, 1308, 62), (1418, 92, 1416, 1417), (1212, 92, 1211, 48), (1442, 92, 1440, 1441), (1367, 92, 1366, 75), (1401, 92, 1399, 1400), (1281, 92, 1279, 1280), (1447, 92, 1445, 1446), (1347, 92, 1346, 70), (1335, 92, 1334, 67), (1176, 92, 1174, 1175), (1318, 92, 1316, 1317)]
def xpl_6 : List (Nat × Nat × Nat × Nat) := [(1397, 92, 1396, 78), (1257, 92, 1256, 57), (1274, 92, 1272, 1273), (1240, 92, 1239, 55), (1301, 92, 1300, 60), (506, 93, 504, 505), (441, 93, 440, 9999), (512, 93, 511, 9999), (408, 93, 406, 407), (390, 93, 388, 389), (394, 93, 392, 393), (398, 93, 396, 397), (404, 93, 402, 403), (414, 94, 413, 9999), (509, 94, 508, 9999), (423, 94, 422, 9999), (411, 94, 410, 9999), (518, 96, 517, 9999), (435, 96, 434, 9999), (521, 96, 520, 9999), (452, 96, 451, 9999), (449, 96, 448, 9999), (432, 96, 431, 9999), (461, 96, 460, 9999), (426, 96, 425, 9999), (438, 96, 437, 9999), (446, 97, 445, 9999), (515, 97, 514, 9999), (467, 98, 466, 9999), (464, 98, 463, 9999), (471, 98, 470, 9999)]
def xpl (M : Nat) : Option (Nat × Nat × Nat × Nat) := match M / 32 with
  | 0 => xpl_0[M % 32]?
  | 1 => xpl_1[M % 32]?
  | 2 => xpl_2[M % 32]?
  | 3 => xpl_3[M % 32]?
  | 4 => xpl_4[M % 32]?
  | 5 => xpl_5[M % 32]?
  | 6 => xpl_6[M % 32]?
  | _ => none
def xd0 : xM := (yL_law, cL_law, 4, some .boolean)
def xlk {α : Type} (t : List (List (Nat × α))) (M k : Nat) : Option α := match xent M with
  | some e => match t[e.2.2.1]? with
    | some r => r.lookup k
    | none => none
  | none => none
/-- THE PROGRAM -/
def xg : xG := ((fun M pc => match xent M with
    | some e => xtab e.2.1 pc
    | none => none,
  fun M k => match xlk xlF M k with
    | some (ci, j, _) => some (ci, j)
    | none => none,
  fun M k => match xent M, xlk xlP M k with
    | some e, some (ci, j, ty, fin, _) => if fin = true ∧ ¬ (e.2.2.2.2 = true ∧ e.2.2.2.1 = ci) then none else some (ci, j, ty)
    | _, _ => none,
  fun M k => match xlk xlM M k with
    | some (kind, N, na, ci, _) => some (kind, N, na, ci)
    | none => none,
  fun M k => match xlk xlC M k with
    | some (ci, _) => some ci
    | none => none,
  fun M k => match xlk xlV M k with
    | some (v, _) => some v
    | none => none,
  fun ci => xdf.getD ci [],
  fun M => match xent M with
    | some e => e.1
    | none => xd0),
  (fun M k => xlk xlS M k, fun M k => match xlk xlX M k with
    | some (f, _) => some f
    | none => none,
  fun M k => match xlk xlZ M k with
    | some (v, _) => some v
    | none => none, xbyt))
def xTs : List Cond := lw_tbl.filter goodWord
/-- that word, at that place of the tables -/
def xis (i : Nat) (w : Cond) : Bool := decide (lw_tbl[i]? = some w) && goodWord w
theorem xis_in {i : Nat} {w : Cond} (h : xis i w = true) : w ∈ xTs := by
  simp only [xis, Bool.and_eq_true, decide_eq_true_eq] at h
  exact List.mem_filter.mpr ⟨List.mem_of_getElem? h.1, h.2⟩
theorem xlk_in {α : Type} {t : List (List (Nat × α))} {M k : Nat} {v : α} (h : xlk t M k = some v) : ∃ e r, xent M = some e ∧ t[e.2.2.1]? = some r ∧ (k, v) ∈ r := by
  unfold xlk at h
  split at h
  · rename_i e he
    split at h
    · rename_i r hr
      exact ⟨e, r, he, hr, x_lookg h⟩
    · cases h
  · cases h
theorem xzip {α β : Type} {f : α → β → Bool} {a : List α} {b : List β} (h : ((List.zip a b).all (fun q => f q.1 q.2)) = true) {i : Nat} {x : α} {y : β} (hx : a[i]? = some x) (hy : b[i]? = some y) : f x y = true := by
  have : (x, y) ∈ List.zip a b := List.mem_of_getElem? (i := i) (by rw [List.getElem?_zip_eq_some]; exact ⟨hx, hy⟩)
  exact List.all_eq_true.mp h _ this
def xentOK (e : xEn) : Bool := decide (xcn[e.2.2.1]? = some e.1.1.cls) && (!e.2.2.2.2 || decide (e.1.1.name = "<init>")) && (e.2.2.2.1 == 99 || match vwCl[e.2.2.2.1]? with
  | some (C, _, _) => decide (C = e.1.1.cls)
  | none => false)
theorem xentOK_0 : ∀ e ∈ xall_0, xentOK e = true := fun e he => List.all_eq_true.mp (by decide +kernel : xall_0.all xentOK = true) e he
theorem xentOK_1 : ∀ e ∈ xall_1, xentOK e = true := fun e he => List.all_eq_true.mp (by decide +kernel : xall_1.all xentOK = true) e he
theorem xentOK_2 : ∀ e ∈ xall_2, xentOK e = true := fun e he => List.all_eq_true.mp (by decide +kernel : xall_2.all xentOK = true) e he
theorem xentOK_3 : ∀ e ∈ xall_3, xentOK e = true := fun e he => List.all_eq_true.mp (by decide +kernel : xall_3.all xentOK = true) e he
theorem xentOK_4 : ∀ e ∈ xall_4, xentOK e = true := fun e he => List.all_eq_true.mp (by decide +kernel : xall_4.all xentOK = true) e he
theorem xentOK_5 : ∀ e ∈ xall_5, xentOK e = true := fun e he => List.all_eq_true.mp (by decide +kernel : xall_5.all xentOK = true) e he
theorem xentOK_6 : ∀ e ∈ xall_6, xentOK e = true := fun e he => List.all_eq_true.mp (by decide +kernel : xall_6.all xentOK = true) e he
theorem xent_all {P : xEn → Prop} (h0 : ∀ e ∈ xall_0, P e) (h1 : ∀ e ∈ xall_1, P e) (h2 : ∀ e ∈ xall_2, P e) (h3 : ∀ e ∈ xall_3, P e) (h4 : ∀ e ∈ xall_4, P e) (h5 : ∀ e ∈ xall_5, P e) (h6 : ∀ e ∈ xall_6, P e) {M : Nat} {e : xEn} (h : xent M = some e) : P e := by
  unfold xent at h
  split at h
  · exact h0 e (List.mem_of_getElem? h)
  · exact h1 e (List.mem_of_getElem? h)
  · exact h2 e (List.mem_of_getElem? h)
  · exact h3 e (List.mem_of_getElem? h)
  · exact h4 e (List.mem_of_getElem? h)
  · exact h5 e (List.mem_of_getElem? h)
  · exact h6 e (List.mem_of_getElem? h)
  · cases h
theorem xentOK_all {M : Nat} {e : xEn} (h : xent M = some e) : xentOK e = true := xent_all (P := fun e => xentOK e = true) xentOK_0 xentOK_1 xentOK_2 xentOK_3 xentOK_4 xentOK_5 xentOK_6 h
theorem xent_cn {M : Nat} {e : xEn} (h : xent M = some e) : xcn[e.2.2.1]? = some (xMet xg M).1.cls := by
  have h1 := xentOK_all h
  simp only [xentOK, Bool.and_eq_true, decide_eq_true_eq] at h1
  have : xMet xg M = e.1 := by show (match xent M with | some e => e.1 | none => xd0) = e.1; rw [h]
  rw [this]
  exact h1.1.1
theorem xent_met {M : Nat} {e : xEn} (h : xent M = some e) : xMet xg M = e.1 := by show (match xent M with | some e => e.1 | none => xd0) = e.1; rw [h]
theorem xu_0 : ∀ e ∈ xall_0, ∀ r ∈ e.2.1, xchk1 e.1.2.1 r = true := List.forall_mem_cons.mpr ⟨uL_law, List.forall_mem_cons.mpr ⟨uX0_allows, List.forall_mem_cons.mpr ⟨uX0_hasNumber, List.forall_mem_cons.mpr ⟨uX0_rows, List.forall_mem_cons.mpr ⟨uX0_shape, List.forall_mem_cons.mpr ⟨uX0_word, List.forall_mem_cons.mpr ⟨uX1_init, List.forall_mem_cons.mpr ⟨uX1_writeBlank, List.forall_mem_cons.mpr ⟨uX1_writeByte, List.forall_mem_cons.mpr ⟨uX1_writeField, List.forall_mem_cons.mpr ⟨uX1_writeNum, List.forall_mem_cons.mpr ⟨uX1_writeNums, List.forall_mem_cons.mpr ⟨uX1_writePart, List.forall_mem_cons.mpr ⟨uX1_writeSign, List.forall_mem_cons.mpr ⟨uX1_writeStream, List.forall_mem_cons.mpr ⟨uX1_writeWord, List.forall_mem_cons.mpr ⟨uX2_addByte, List.forall_mem_cons.mpr ⟨uX2_init, List.forall_mem_cons.mpr ⟨uX2_isSign, List.forall_mem_cons.mpr ⟨uX2_isWord, List.forall_mem_cons.mpr ⟨uX2_kindOfWord, List.forall_mem_cons.mpr ⟨uX2_meaningOf, List.forall_mem_cons.mpr ⟨uX2_miss, List.forall_mem_cons.mpr ⟨uX2_readField, List.forall_mem_cons.mpr ⟨uX2_readNum, List.forall_mem_cons.mpr ⟨uX2_readNumber, List.forall_mem_cons.mpr ⟨uX2_readNums, List.forall_mem_cons.mpr ⟨uX2_readPart, List.forall_mem_cons.mpr ⟨uX2_readSign, List.forall_mem_cons.mpr ⟨uX2_readTape, List.forall_mem_cons.mpr ⟨uX2_sortOf, List.forall_mem_cons.mpr ⟨uX2_splitTape, fun _ h => absurd h List.not_mem_nil⟩⟩⟩⟩⟩⟩⟩⟩⟩⟩⟩⟩⟩⟩⟩⟩⟩⟩⟩⟩⟩⟩⟩⟩⟩⟩⟩⟩⟩⟩⟩⟩
theorem xu_1 : ∀ e ∈ xall_1, ∀ r ∈ e.2.1, xchk1 e.1.2.1 r = true := List.forall_mem_cons.mpr ⟨uX3_init, List.forall_mem_cons.mpr ⟨uX3_isMissing, List.forall_mem_cons.mpr ⟨uX3_move, List.forall_mem_cons.mpr ⟨uX3_read, List.forall_mem_cons.mpr ⟨uX3_renew, List.forall_mem_cons.mpr ⟨uX3_spans, List.forall_mem_cons.mpr ⟨uX3_write, List.forall_mem_cons.mpr ⟨uX4_addUp, List.forall_mem_cons.mpr ⟨uX4_askHead, List.forall_mem_cons.mpr ⟨uX4_askPlace, List.forall_mem_cons.mpr ⟨uX4_begin, List.forall_mem_cons.mpr ⟨uX4_beginsRun, List.forall_mem_cons.mpr ⟨uX4_behindNames, List.forall_mem_cons.mpr ⟨uX4_combine, List.forall_mem_cons.mpr ⟨uX4_firstUnlike, List.forall_mem_cons.mpr ⟨uX4_gather, List.forall_mem_cons.mpr ⟨uX4_init, List.forall_mem_cons.mpr ⟨uX4_isThere, List.forall_mem_cons.mpr ⟨uX4_mergePlace, List.forall_mem_cons.mpr ⟨uX4_outcome, List.forall_mem_cons.mpr ⟨uX4_passes, List.forall_mem_cons.mpr ⟨uX4_passesOwnHeads, List.forall_mem_cons.mpr ⟨uX4_placeOf, List.forall_mem_cons.mpr ⟨uX4_rising, List.forall_mem_cons.mpr ⟨uX4_seekPlace, List.forall_mem_cons.mpr ⟨uX4_seeks, List.forall_mem_cons.mpr ⟨uX4_tellHead, List.forall_mem_cons.mpr ⟨uX4_tellNumber, List.forall_mem_cons.mpr ⟨uX4_tellPlace, List.forall_mem_cons.mpr ⟨uX5_allParts, List.forall_mem_cons.mpr ⟨uX5_clearPart, List.forall_mem_cons.mpr ⟨uX5_close, fun _ h => absurd h List.not_mem_nil⟩⟩⟩⟩⟩⟩⟩⟩⟩⟩⟩⟩⟩⟩⟩⟩⟩⟩⟩⟩⟩⟩⟩⟩⟩⟩⟩⟩⟩⟩⟩⟩
theorem xu_2 : ∀ e ∈ xall_2, ∀ r ∈ e.2.1, xchk1 e.1.2.1 r = true := List.forall_mem_cons.mpr ⟨uX5_filledStreams, List.forall_mem_cons.mpr ⟨uX5_firstRow, List.forall_mem_cons.mpr ⟨uX5_init, List.forall_mem_cons.mpr ⟨uX5_secondRow, List.forall_mem_cons.mpr ⟨uX5_takeAll, List.forall_mem_cons.mpr ⟨uX5_takeParts, List.forall_mem_cons.mpr ⟨uX5_takeStream, List.forall_mem_cons.mpr ⟨uX6_allHeads, List.forall_mem_cons.mpr ⟨uX6_allPlaces, List.forall_mem_cons.mpr ⟨uX6_init, List.forall_mem_cons.mpr ⟨uX6_meet, List.forall_mem_cons.mpr ⟨uX6_takeAll, List.forall_mem_cons.mpr ⟨uX6_takePart, List.forall_mem_cons.mpr ⟨uX6_untell, List.forall_mem_cons.mpr ⟨uX6_untellPart, List.forall_mem_cons.mpr ⟨uX7_back, List.forall_mem_cons.mpr ⟨uX7_copy, List.forall_mem_cons.mpr ⟨uX7_count, List.forall_mem_cons.mpr ⟨uX7_counted, List.forall_mem_cons.mpr ⟨uX7_differ, List.forall_mem_cons.mpr ⟨uX7_empty, List.forall_mem_cons.mpr ⟨uX7_entry, List.forall_mem_cons.mpr ⟨uX7_feed, List.forall_mem_cons.mpr ⟨uX7_film, List.forall_mem_cons.mpr ⟨uX7_find, List.forall_mem_cons.mpr ⟨uX7_forget, List.forall_mem_cons.mpr ⟨uX7_hasPart, List.forall_mem_cons.mpr ⟨uX7_head, List.forall_mem_cons.mpr ⟨uX7_image, List.forall_mem_cons.mpr ⟨uX7_init, List.forall_mem_cons.mpr ⟨uX7_is, List.forall_mem_cons.mpr ⟨uX7_isEmpty, fun _ h => absurd h List.not_mem_nil⟩⟩⟩⟩⟩⟩⟩⟩⟩⟩⟩⟩⟩⟩⟩⟩⟩⟩⟩⟩⟩⟩⟩⟩⟩⟩⟩⟩⟩⟩⟩⟩
theorem xu_3 : ∀ e ∈ xall_3, ∀ r ∈ e.2.1, xchk1 e.1.2.1 r = true := List.forall_mem_cons.mpr ⟨uX7_isQuestion, List.forall_mem_cons.mpr ⟨uX7_isSheet, List.forall_mem_cons.mpr ⟨uX7_isStream, List.forall_mem_cons.mpr ⟨uX7_isToldBy, List.forall_mem_cons.mpr ⟨uX7_item, List.forall_mem_cons.mpr ⟨uX7_lay, List.forall_mem_cons.mpr ⟨uX7_limit, List.forall_mem_cons.mpr ⟨uX7_need, List.forall_mem_cons.mpr ⟨uX7_number, List.forall_mem_cons.mpr ⟨uX7_part, List.forall_mem_cons.mpr ⟨uX7_print, List.forall_mem_cons.mpr ⟨uX7_put, List.forall_mem_cons.mpr ⟨uX7_refusedPlace, List.forall_mem_cons.mpr ⟨uX7_refusedRow, List.forall_mem_cons.mpr ⟨uX7_rises, List.forall_mem_cons.mpr ⟨uX7_sheet, List.forall_mem_cons.mpr ⟨uX7_sum, List.forall_mem_cons.mpr ⟨uX7_taken, List.forall_mem_cons.mpr ⟨uX7_tellingNumbers, List.forall_mem_cons.mpr ⟨uX7_tellingStreams, List.forall_mem_cons.mpr ⟨uX7_tells, List.forall_mem_cons.mpr ⟨uX7_text, List.forall_mem_cons.mpr ⟨uX7_there, List.forall_mem_cons.mpr ⟨uX7_twist, List.forall_mem_cons.mpr ⟨uX8_back, List.forall_mem_cons.mpr ⟨uX8_begins, List.forall_mem_cons.mpr ⟨uX8_byteAt, List.forall_mem_cons.mpr ⟨uX8_copy, List.forall_mem_cons.mpr ⟨uX8_count, List.forall_mem_cons.mpr ⟨uX8_cuts, List.forall_mem_cons.mpr ⟨uX8_differ, List.forall_mem_cons.mpr ⟨uX8_digits, fun _ h => absurd h List.not_mem_nil⟩⟩⟩⟩⟩⟩⟩⟩⟩⟩⟩⟩⟩⟩⟩⟩⟩⟩⟩⟩⟩⟩⟩⟩⟩⟩⟩⟩⟩⟩⟩⟩
theorem xu_4 : ∀ e ∈ xall_4, ∀ r ∈ e.2.1, xchk1 e.1.2.1 r = true := List.forall_mem_cons.mpr ⟨uX8_empty, List.forall_mem_cons.mpr ⟨uX8_entry, List.forall_mem_cons.mpr ⟨uX8_fail, List.forall_mem_cons.mpr ⟨uX8_feed, List.forall_mem_cons.mpr ⟨uX8_film, List.forall_mem_cons.mpr ⟨uX8_find, List.forall_mem_cons.mpr ⟨uX8_followed, List.forall_mem_cons.mpr ⟨uX8_forget, List.forall_mem_cons.mpr ⟨uX8_full, List.forall_mem_cons.mpr ⟨uX8_gap, List.forall_mem_cons.mpr ⟨uX8_groupOf, List.forall_mem_cons.mpr ⟨uX8_head, List.forall_mem_cons.mpr ⟨uX8_headAsked, List.forall_mem_cons.mpr ⟨uX8_image, List.forall_mem_cons.mpr ⟨uX8_in, List.forall_mem_cons.mpr ⟨uX8_init, List.forall_mem_cons.mpr ⟨uX8_is, List.forall_mem_cons.mpr ⟨uX8_isFull, List.forall_mem_cons.mpr ⟨uX8_isLetter, List.forall_mem_cons.mpr ⟨uX8_isNumbered, List.forall_mem_cons.mpr ⟨uX8_isPart, List.forall_mem_cons.mpr ⟨uX8_isSheet, List.forall_mem_cons.mpr ⟨uX8_isSign, List.forall_mem_cons.mpr ⟨uX8_isSignByte, List.forall_mem_cons.mpr ⟨uX8_isSo, List.forall_mem_cons.mpr ⟨uX8_isStream, List.forall_mem_cons.mpr ⟨uX8_isWord, List.forall_mem_cons.mpr ⟨uX8_item, List.forall_mem_cons.mpr ⟨uX8_joined, List.forall_mem_cons.mpr ⟨uX8_keeps, List.forall_mem_cons.mpr ⟨uX8_kindOf, List.forall_mem_cons.mpr ⟨uX8_kindWord, fun _ h => absurd h List.not_mem_nil⟩⟩⟩⟩⟩⟩⟩⟩⟩⟩⟩⟩⟩⟩⟩⟩⟩⟩⟩⟩⟩⟩⟩⟩⟩⟩⟩⟩⟩⟩⟩⟩
theorem xu_5 : ∀ e ∈ xall_5, ∀ r ∈ e.2.1, xchk1 e.1.2.1 r = true := List.forall_mem_cons.mpr ⟨uX8_lay, List.forall_mem_cons.mpr ⟨uX8_laysAside, List.forall_mem_cons.mpr ⟨uX8_laysBack, List.forall_mem_cons.mpr ⟨uX8_limit, List.forall_mem_cons.mpr ⟨uX8_list, List.forall_mem_cons.mpr ⟨uX8_merges, List.forall_mem_cons.mpr ⟨uX8_need, List.forall_mem_cons.mpr ⟨uX8_next, List.forall_mem_cons.mpr ⟨uX8_num, List.forall_mem_cons.mpr ⟨uX8_number, List.forall_mem_cons.mpr ⟨uX8_op, List.forall_mem_cons.mpr ⟨uX8_other, List.forall_mem_cons.mpr ⟨uX8_outcome, List.forall_mem_cons.mpr ⟨uX8_part, List.forall_mem_cons.mpr ⟨uX8_passes, List.forall_mem_cons.mpr ⟨uX8_place, List.forall_mem_cons.mpr ⟨uX8_plain, List.forall_mem_cons.mpr ⟨uX8_print, List.forall_mem_cons.mpr ⟨uX8_prints, List.forall_mem_cons.mpr ⟨uX8_put, List.forall_mem_cons.mpr ⟨uX8_puts, List.forall_mem_cons.mpr ⟨uX8_rises, List.forall_mem_cons.mpr ⟨uX8_row, List.forall_mem_cons.mpr ⟨uX8_sheet, List.forall_mem_cons.mpr ⟨uX8_sieved, List.forall_mem_cons.mpr ⟨uX8_sum, List.forall_mem_cons.mpr ⟨uX8_taken, List.forall_mem_cons.mpr ⟨uX8_tells, List.forall_mem_cons.mpr ⟨uX8_tellsHead, List.forall_mem_cons.mpr ⟨uX8_tellsPlace, List.forall_mem_cons.mpr ⟨uX8_text, List.forall_mem_cons.mpr ⟨uX8_there, fun _ h => absurd h List.not_mem_nil⟩⟩⟩⟩⟩⟩⟩⟩⟩⟩⟩⟩⟩⟩⟩⟩⟩⟩⟩⟩⟩⟩⟩⟩⟩⟩⟩⟩⟩⟩⟩⟩
theorem xu_6 : ∀ e ∈ xall_6, ∀ r ∈ e.2.1, xchk1 e.1.2.1 r = true := List.forall_mem_cons.mpr ⟨uX8_toldAll, List.forall_mem_cons.mpr ⟨uX8_toldHeads, List.forall_mem_cons.mpr ⟨uX8_twist, List.forall_mem_cons.mpr ⟨uX8_untells, List.forall_mem_cons.mpr ⟨uX8_word, List.forall_mem_cons.mpr ⟨uJ0_charAt_5068e, List.forall_mem_cons.mpr ⟨uJ0_checkBoundsBeginEnd_23922, List.forall_mem_cons.mpr ⟨uJ0_checkIndex_df160, List.forall_mem_cons.mpr ⟨uJ0_coder_7d493, List.forall_mem_cons.mpr ⟨uJ0_indexOf_0f7a4, List.forall_mem_cons.mpr ⟨uJ0_indexOf_7cf53, List.forall_mem_cons.mpr ⟨uJ0_isLatin1_aae02, List.forall_mem_cons.mpr ⟨uJ0_length_8abf5, List.forall_mem_cons.mpr ⟨uJ1_canEncode_9a6ad, List.forall_mem_cons.mpr ⟨uJ1_charAt_3b067, List.forall_mem_cons.mpr ⟨uJ1_indexOfChar_4cfef, List.forall_mem_cons.mpr ⟨uJ1_indexOf_4cfef, List.forall_mem_cons.mpr ⟨uJ2_charAt_3b067, List.forall_mem_cons.mpr ⟨uJ2_checkBoundsBeginEnd_d044e, List.forall_mem_cons.mpr ⟨uJ2_checkIndex_2214a, List.forall_mem_cons.mpr ⟨uJ2_getChar_3b067, List.forall_mem_cons.mpr ⟨uJ2_indexOfCharUnsafe_4cfef, List.forall_mem_cons.mpr ⟨uJ2_indexOfChar_4cfef, List.forall_mem_cons.mpr ⟨uJ2_indexOfSupplementary_4cfef, List.forall_mem_cons.mpr ⟨uJ2_indexOf_4cfef, List.forall_mem_cons.mpr ⟨uJ2_length_9d52b, List.forall_mem_cons.mpr ⟨uJ3_checkFromToIndex_8c36e, List.forall_mem_cons.mpr ⟨uJ3_checkIndex_8e157, List.forall_mem_cons.mpr ⟨uJ11_highSurrogate_5068e, List.forall_mem_cons.mpr ⟨uJ11_isValidCodePoint_9a6ad, List.forall_mem_cons.mpr ⟨uJ11_lowSurrogate_5068e, fun _ h => absurd h List.not_mem_nil⟩⟩⟩⟩⟩⟩⟩⟩⟩⟩⟩⟩⟩⟩⟩⟩⟩⟩⟩⟩⟩⟩⟩⟩⟩⟩⟩⟩⟩⟩⟩
theorem xok_ins : ∀ M pc i, xIns xg M pc = some i → ∃ n, decode (xMet xg M).2.1 pc = .ok (i, n) ∧ (xsw i = true ∨ n = xlen i) := by
  intro M pc i h
  have h : (match xent M with | some e => xtab e.2.1 pc | none => none) = some i := h
  split at h
  · rename_i e he
    rw [xent_met he]
    exact xtab_ok (xent_all (P := fun e => ∀ r ∈ e.2.1, xchk1 e.1.2.1 r = true) xu_0 xu_1 xu_2 xu_3 xu_4 xu_5 xu_6 he) h
  · cases h
def xclOK (q : vw_C) : Bool := (u_ws q.1 q.2.1 q.2.2).all (fun w => decide (w ∈ lw_tbl) && goodWord w)
theorem xclOK_all : vwCl.all xclOK = true := by decide +kernel
theorem xcl_ws {ci : Nat} {C : String} {T : u_T} {N : Nat} (h : vwCl[ci]? = some (C, T, N)) : ∀ w ∈ u_ws C T N, w ∈ xTs := by
  intro w hw
  have h1 : xclOK (C, T, N) = true := List.all_eq_true.mp xclOK_all _ (List.mem_of_getElem? h)
  have h2 := List.all_eq_true.mp h1 w hw
  simp only [Bool.and_eq_true, decide_eq_true_eq] at h2
  exact List.mem_filter.mpr h2
def xckF (own : String) (q : Nat × Nat × Nat × Nat) : Bool := match vwCl[q.2.1]? with
  | some (_, T, N) => decide (q.2.2.1 < N) && xis q.2.2.2 (.fieldLink own q.1 (T q.2.2.1).1 (T q.2.2.1).2.1 (T q.2.2.1).2.2.1)
  | none => false
def xckFl (l : List (Nat × Nat × Nat × Nat)) (own : String) : Bool := l.all (xckF own)
theorem xckF_all : (List.zip xlF xcn).all (fun q => xckFl q.1 q.2) = true := by decide +kernel
theorem xok_fld : ∀ M k ci j, xFld xg M k = some (ci, j) → ∃ (C : String) (T : u_T) (N : Nat), vwCl[ci]? = some (C, T, N) ∧ j < N ∧ (∀ w ∈ u_ws C T N, w ∈ xTs) ∧ Cond.fieldLink (xMet xg M).1.cls k (T j).1 (T j).2.1 (T j).2.2.1 ∈ xTs := by
  intro M k ci j h
  have h : (match xlk xlF M k with | some (ci, j, _) => some (ci, j) | none => none) = some (ci, j) := h
  split at h
  · rename_i ci' j' pl hq
    cases h
    obtain ⟨e, r, he, hr, hm⟩ := xlk_in hq
    have h1 := List.all_eq_true.mp (xzip (f := xckFl) xckF_all hr (xent_cn he)) _ hm
    unfold xckF at h1
    split at h1
    · rename_i C T N hc
      simp only [Bool.and_eq_true, decide_eq_true_eq] at h1
      exact ⟨C, T, N, hc, h1.1, xcl_ws hc, xis_in h1.2⟩
    · cases h1
  · cases h
def xtyp (T : u_T) (k : Nat) : FieldType := (parseFieldDescriptor (T k).2.2.1).getD .int
def xclT (q : vw_C) : Bool := (List.range q.2.2).all (fun k => (parseFieldDescriptor (q.2.1 k).2.2.1).isSome)
theorem xclT_all : vwCl.all xclT = true := by decide +kernel
theorem xcl_ty {ci : Nat} {C : String} {T : u_T} {N : Nat} (h : vwCl[ci]? = some (C, T, N)) : ∀ k, k < N → parseFieldDescriptor (T k).2.2.1 = some (xtyp T k) := by
  intro k hk
  have h1 : xclT (C, T, N) = true := List.all_eq_true.mp xclT_all _ (List.mem_of_getElem? h)
  have h2 := List.all_eq_true.mp h1 k (List.mem_range.mpr hk)
  obtain ⟨v, hv⟩ := Option.isSome_iff_exists.mp h2
  have hv : parseFieldDescriptor (T k).2.2.1 = some v := hv
  rw [hv, xtyp, hv]; rfl
def xclN (q : vw_C) : Bool := (List.range q.2.2).all (fun a => (List.range q.2.2).all (fun b => decide (a = b) || !decide ((q.2.1 a).2.1 = (q.2.1 b).2.1)))
theorem xclN_all : vwCl.all xclN = true := by decide +kernel
theorem xcl_nm {ci : Nat} {C : String} {T : u_T} {N : Nat} (h : vwCl[ci]? = some (C, T, N)) : ∀ a, a < N → ∀ b, b < N → a ≠ b → (T a).2.1 ≠ (T b).2.1 := by
  intro a ha b hb hab he
  have h1 : xclN (C, T, N) = true := List.all_eq_true.mp xclN_all _ (List.mem_of_getElem? h)
  have h2 := List.all_eq_true.mp (List.all_eq_true.mp h1 a (List.mem_range.mpr ha)) b (List.mem_range.mpr hb)
  simp only [Bool.or_eq_true, decide_eq_true_eq, Bool.not_eq_true', decide_eq_false_iff_not] at h2
  rcases h2 with z | z
  · exact hab z
  · exact z he
def xckP (own : String) (q : Nat × Nat × Nat × FieldType × Bool × Nat) : Bool := match vwCl[q.2.1]? with
  | some (C, T, N) => decide (q.2.2.1 < N) && xis q.2.2.2.2.2 (.fieldLink own q.1 (T q.2.2.1).1 (T q.2.2.1).2.1 (T q.2.2.1).2.2.1) && decide (xtyp T q.2.2.1 = q.2.2.2.1) && decide ((T q.2.2.1).2.2.2 = q.2.2.2.2.1) && decide ((T q.2.2.1).1 = C)
  | none => false
def xckPl (l : List (Nat × Nat × Nat × FieldType × Bool × Nat)) (own : String) : Bool := l.all (xckP own)
theorem xckP_all : (List.zip xlP xcn).all (fun q => xckPl q.1 q.2) = true := by decide +kernel
theorem xok_put : ∀ M k ci j ty, xPut xg M k = some (ci, j, ty) → ∃ (C : String) (T : u_T) (N : Nat) (ty0 : Nat → FieldType), vwCl[ci]? = some (C, T, N) ∧ j < N ∧ (∀ w ∈ u_ws C T N, w ∈ xTs) ∧ Cond.fieldLink (xMet xg M).1.cls k (T j).1 (T j).2.1 (T j).2.2.1 ∈ xTs ∧ (∀ k, k < N → parseFieldDescriptor (T k).2.2.1 = some (ty0 k)) ∧ ty0 j = ty ∧ (∀ a, a < N → ∀ b, b < N → a ≠ b → (T a).2.1 ≠ (T b).2.1) ∧ ((T j).2.2.2 = false ∨ ((T j).2.2.2 = true ∧ (xMet xg M).1.name = "<init>" ∧ (T j).1 = (xMet xg M).1.cls)) := by
  intro M k ci j ty h
  have h : (match xent M, xlk xlP M k with | some e, some (ci, j, ty, fin, _) => if fin = true ∧ ¬ (e.2.2.2.2 = true ∧ e.2.2.2.1 = ci) then none else some (ci, j, ty) | _, _ => none) = some (ci, j, ty) := h
  split at h
  · rename_i e ci' j' ty' fin pl he0 hq
    split at h
    · cases h
    · rename_i hfin
      cases h
      obtain ⟨e', r, he, hr, hm⟩ := xlk_in hq
      have h1 := List.all_eq_true.mp (xzip (f := xckPl) xckP_all hr (xent_cn he)) _ hm
      unfold xckP at h1
      split at h1
      · rename_i C T N hc
        simp only [Bool.and_eq_true, decide_eq_true_eq] at h1
        obtain ⟨⟨⟨⟨h2, h3⟩, h4⟩, h5⟩, h6⟩ := h1
        refine ⟨C, T, N, xtyp T, hc, h2, xcl_ws hc, xis_in h3, xcl_ty hc, h4, xcl_nm hc, ?_⟩
        cases hf : fin with
        | false => rw [hf] at h5; exact Or.inl h5
        | true =>
          rw [hf] at h5 hfin
          have h7 : e.2.2.2.2 = true ∧ e.2.2.2.1 = ci := Decidable.not_not.mp (fun z => hfin ⟨rfl, z⟩)
          have h8 := xentOK_all he0
          simp only [xentOK, Bool.and_eq_true, h7.1, Bool.not_true, Bool.false_or, decide_eq_true_eq, Bool.or_eq_true, beq_iff_eq, h7.2] at h8
          refine Or.inr ⟨h5, by rw [xent_met he0]; exact h8.1.2, ?_⟩
          rw [h6, xent_met he0]
          rcases h8.2 with z | z
          · subst z; cases hc
          · have hc' : vwCl[ci]? = some (C, T, N) := hc
            rw [hc'] at z
            exact of_decide_eq_true z
      · cases h1
  · cases h
def xckC (own : String) (q : Nat × Nat × Nat) : Bool := match vwCl[q.2.1]? with
  | some (C, _, _) => xis q.2.2 (.classLink own q.1 C)
  | none => false
def xckCl (l : List (Nat × Nat × Nat)) (own : String) : Bool := l.all (xckC own)
theorem xckC_all : (List.zip xlC xcn).all (fun q => xckCl q.1 q.2) = true := by decide +kernel
def xdfv (v : Value) : Bool := match v with
  | .int _ | .long _ | .null => true
  | _ => false
def xclD (q : vw_C) (d : List Value) : Bool := decide (Cond.instantiable q.1 q.2.2 ∈ lw_tbl) && goodWord (.instantiable q.1 q.2.2) && decide (Cond.initialized q.1 ∈ lw_tbl) && goodWord (.initialized q.1) && decide (d.length = q.2.2) && d.all xdfv && (List.range q.2.2).all (fun j => decide (defaultValue (xtyp q.2.1 j) = vp_V d j))
theorem xclD_all : (List.zip vwCl xdf).all (fun q => xclD q.1 q.2) = true := by decide +kernel
theorem xdfv_map (base : Nat) (b : Nat → Nat) {d : List Value} (h : d.all xdfv = true) : d.map (xv base b) = d := by
  induction d with
  | nil => rfl
  | cons v t ih =>
    simp only [List.all_cons, Bool.and_eq_true] at h
    rw [List.map_cons, ih h.2]
    cases v <;> first | rfl | (exact absurd h.1 (by decide)) | cases h.1
theorem xok_cls : ∀ M k ci, xCls xg M k = some ci → ∃ (C : String) (T : u_T) (N : Nat) (ty : Nat → FieldType), vwCl[ci]? = some (C, T, N) ∧ (∀ w ∈ u_ws C T N, w ∈ xTs) ∧ (∀ k, k < N → parseFieldDescriptor (T k).2.2.1 = some (ty k)) ∧ Cond.classLink (xMet xg M).1.cls k C ∈ xTs ∧ Cond.instantiable C N ∈ xTs ∧ Cond.initialized C ∈ xTs ∧ (xDfl xg ci).length = N ∧ (∀ base b, (xDfl xg ci).map (xv base b) = xDfl xg ci) ∧ ∀ j, j < N → defaultValue (ty j) = vp_V (xDfl xg ci) j := by
  intro M k ci h
  have h : (match xlk xlC M k with | some (ci, _) => some ci | none => none) = some ci := h
  split at h
  · rename_i ci' pl hq
    cases h
    obtain ⟨e, r, he, hr, hm⟩ := xlk_in hq
    have h1 := List.all_eq_true.mp (xzip (f := xckCl) xckC_all hr (xent_cn he)) _ hm
    unfold xckC at h1
    split at h1
    · rename_i C T N hc
      have hl : ci < 8 := by
        have := (List.getElem?_eq_some_iff.mp hc).1
        simpa using this
      obtain ⟨d, hd⟩ : ∃ d, xdf[ci]? = some d := ⟨_, List.getElem?_eq_getElem (by simpa [xdf] using hl)⟩
      have h2 := xzip (f := xclD) xclD_all hc hd
      simp only [xclD, Bool.and_eq_true, decide_eq_true_eq] at h2
      obtain ⟨⟨⟨⟨⟨⟨a1, a2⟩, a3⟩, a4⟩, a5⟩, a6⟩, a7⟩ := h2
      have hdd : xDfl xg ci = d := by show xdf.getD ci [] = d; rw [List.getD_eq_getElem?_getD, hd]; rfl
      rw [hdd]
      refine ⟨C, T, N, xtyp T, hc, xcl_ws hc, xcl_ty hc, xis_in h1, List.mem_filter.mpr ⟨a1, a2⟩, List.mem_filter.mpr ⟨a3, a4⟩, a5, fun base b => xdfv_map base b a6, fun j hj => ?_⟩
      have := List.all_eq_true.mp a7 j (List.mem_range.mpr hj)
      simpa using this
    · cases h1
  · cases h
def xckV (own : String) (q : Nat × Value × Nat) : Bool := match q.2.1 with
  | .int v => xis q.2.2 (.constant own q.1 v)
  | .long v => xis q.2.2 (.constantLong own q.1 v)
  | _ => false
def xckVl (l : List (Nat × Value × Nat)) (own : String) : Bool := l.all (xckV own)
theorem xckV_all : (List.zip xlV xcn).all (fun q => xckVl q.1 q.2) = true := by decide +kernel
theorem xok_con : ∀ M k v, xCon xg M k = some v → ∃ pl, xckV (xMet xg M).1.cls (k, v, pl) = true := by
  intro M k v h
  have h : (match xlk xlV M k with | some (v, _) => some v | none => none) = some v := h
  split at h
  · rename_i v' pl hq
    cases h
    obtain ⟨e, r, he, hr, hm⟩ := xlk_in hq
    exact ⟨pl, List.all_eq_true.mp (xzip (f := xckVl) xckV_all hr (xent_cn he)) _ hm⟩
  · cases h
theorem xok_arr : Cond.arrayClass .int ∈ xTs ∧ Cond.arrayClass .long ∈ xTs ∧ Cond.arrayClass .byte ∈ xTs ∧ Cond.arrayClass .boolean ∈ xTs := ⟨xis_in (i := 172) (by decide +kernel), xis_in (i := 173) (by decide +kernel), xis_in (i := 274) (by decide +kernel), xis_in (i := 273) (by decide +kernel)⟩
def xckX (own : String) (q : Nat × Nat × Nat) : Bool := match q.2.1 with
  | 0 => xis q.2.2 (.fieldLink own q.1 "java/lang/String" "value" "[B")
  | 1 => xis q.2.2 (.fieldLink own q.1 "java/lang/String" "coder" "B")
  | _ => false
def xckXl (l : List (Nat × Nat × Nat)) (own : String) : Bool := l.all (xckX own)
theorem xckX_all : (List.zip xlX xcn).all (fun q => xckXl q.1 q.2) = true := by decide +kernel
theorem xok_exf : ∀ M k f, xExf xg M k = some f → ∃ pl, xckX (xMet xg M).1.cls (k, f, pl) = true := by
  intro M k f h
  have h : (match xlk xlX M k with | some (f, _) => some f | none => none) = some f := h
  split at h
  · rename_i v' pl hq
    cases h
    obtain ⟨e, r, he, hr, hm⟩ := xlk_in hq
    exact ⟨pl, List.all_eq_true.mp (xzip (f := xckXl) xckX_all hr (xent_cn he)) _ hm⟩
  · cases h
def xckZ (own : String) (q : Nat × Value × Nat) : Bool := match q.2.1 with
  | .int 1 => xis q.2.2 (.fieldLink own q.1 "java/lang/String" "COMPACT_STRINGS" "Z")
  | .retAddr 1000 => xis q.2.2 (.fieldLink own q.1 "jdk/internal/util/Preconditions" "SIOOBE_FORMATTER" "Ljava/util/function/BiFunction;")
  | _ => false
def xckZl (l : List (Nat × Value × Nat)) (own : String) : Bool := l.all (xckZ own)
theorem xckZ_all : (List.zip xlZ xcn).all (fun q => xckZl q.1 q.2) = true := by decide +kernel
theorem xok_sta : ∀ M k v, xSta xg M k = some v → (v = .int 1 ∧ Cond.fieldLink (xMet xg M).1.cls k "java/lang/String" "COMPACT_STRINGS" "Z" ∈ xTs) ∨ (v = .retAddr 1000 ∧ Cond.fieldLink (xMet xg M).1.cls k "jdk/internal/util/Preconditions" "SIOOBE_FORMATTER" "Ljava/util/function/BiFunction;" ∈ xTs) := by
  intro M k v h
  have h : (match xlk xlZ M k with | some (v, _) => some v | none => none) = some v := h
  split at h
  · rename_i v' pl hq
    cases h
    obtain ⟨e, r, he, hr, hm⟩ := xlk_in hq
    have h1 := List.all_eq_true.mp (xzip (f := xckZl) xckZ_all hr (xent_cn he)) _ hm
    unfold xckZ at h1
    split at h1
    · rename_i z; exact Or.inl ⟨z, xis_in h1⟩
    · rename_i z; exact Or.inr ⟨z, xis_in h1⟩
    · cases h1
  · cases h
theorem xg_ok : xOK xg vwCl xTs := by
  refine ⟨xok_ins, xok_fld, xok_put, xok_cls, fun M k v h => ?_, fun M k v h => ?_, xok_arr, fun w hw => (List.mem_filter.mp hw).2, fun M k h => ?_, fun M k h => ?_, xok_sta⟩
  · obtain ⟨pl, h1⟩ := xok_con M k _ h
    exact xis_in h1
  · obtain ⟨pl, h1⟩ := xok_con M k _ h
    exact xis_in h1
  · obtain ⟨pl, h1⟩ := xok_exf M k _ h
    exact xis_in h1
  · obtain ⟨pl, h1⟩ := xok_exf M k _ h
    exact xis_in h1
